/-! ===== the walk over all paths: weights and codes of a path ===== -/
def WQ (m : mMM) (a0 : Nat → Int) (aa : Nat → Nat → Nat → Int) (n q f : Nat) : Prop := (∀ i, i < n → m 182 i = ((q / 5 ^ (n - 1 - i) % 5 : Nat) : Int)) ∧ ∀ k, k ≤ f → m 183 k = wt a0 aa k (q / 5 ^ (n - k)) ∧ m 184 k = cd k (q / 5 ^ (n - k))
def FRa (m m' : mMM) : Prop := ∀ b k, b ≠ 182 → b ≠ 183 → b ≠ 184 → m' b k = m b k
theorem FRa_trans {m m1 m2 : mMM} (h : FRa m m1) (h2 : FRa m1 m2) : FRa m m2 := fun b k x y z => (h2 b k x y z).trans (h b k x y z)
theorem LBD_fra {m m' : mMM} (h : FRa m m') (hb : LBD m) : LBD m' := ⟨fun p hp k hk => by rw [h (80 + p) k (by omega) (by omega) (by omega)]; exact hb.1 p hp k hk, fun r hr k hk => by rw [h (86 + r) k (by omega) (by omega) (by omega)]; exact hb.2 r hr k hk⟩
theorem ARC_fra {m m' : mMM} {a0 : Nat → Int} {aa : Nat → Nat → Nat → Int} (h : FRa m m') (hb : ARC m a0 aa) : ARC m' a0 aa :=
  ⟨fun g hg => by rw [h 86 g (by omega) (by omega) (by omega), h 80 g (by omega) (by omega) (by omega)]; exact hb.1 g hg, fun p hp f hf g hg => by rw [h (86 + (f + 1)) g (by omega) (by omega) (by omega), h (80 + p) g (by omega) (by omega) (by omega)]; exact hb.2 p hp f hf g hg⟩
theorem div_next (q n k : Nat) (hk : k < n) : q / 5 ^ (n - (k + 1)) / 5 = q / 5 ^ (n - k) := by
  rw [Nat.div_div_eq_div_mul, ← Nat.pow_succ, show (n - (k + 1)).succ = n - k by omega]
theorem wt_at (a0 : Nat → Int) (aa : Nat → Nat → Nat → Int) (q n k : Nat) (hk : k < n) : wt a0 aa (k + 1) (q / 5 ^ (n - (k + 1))) = wt a0 aa k (q / 5 ^ (n - k)) * (if k = 0 then a0 (q / 5 ^ (n - 1 - k) % 5) else aa k (q / 5 ^ (n - 1 - (k - 1)) % 5) (q / 5 ^ (n - 1 - k) % 5)) := by
  show wt a0 aa k (q / 5 ^ (n - (k + 1)) / 5) * (if k = 0 then a0 (q / 5 ^ (n - (k + 1)) % 5) else aa k (q / 5 ^ (n - (k + 1)) / 5 % 5) (q / 5 ^ (n - (k + 1)) % 5)) = _
  rw [div_next q n k hk, show n - (k + 1) = n - 1 - k by omega]
  by_cases c : k = 0
  · rw [if_pos c, if_pos c]
  · rw [if_neg c, if_neg c, show n - 1 - (k - 1) = n - k by omega]
theorem cd_at (q n k : Nat) (hk : k < n) : cd (k + 1) (q / 5 ^ (n - (k + 1))) = cd k (q / 5 ^ (n - k)) * 2 ^ 3 + ((q / 5 ^ (n - 1 - k) % 5 : Nat) : Int) := by
  show cd k (q / 5 ^ (n - (k + 1)) / 5) * 2 ^ 3 + ((q / 5 ^ (n - (k + 1)) % 5 : Nat) : Int) = _
  rw [div_next q n k hk, show n - (k + 1) = n - 1 - k by omega]
theorem WQ_next {m : mMM} {a0 : Nat → Int} {aa : Nat → Nat → Nat → Int} {n q k : Nat} {x y : Int} (hk : k < n) (h : WQ m a0 aa n q k) (hx : x = wt a0 aa (k + 1) (q / 5 ^ (n - (k + 1)))) (hy : y = cd (k + 1) (q / 5 ^ (n - (k + 1)))) : WQ (up (up m 183 (k + 1) x) 184 (k + 1) y) a0 aa n q (k + 1) := by
  refine ⟨fun i hi => by rw [up_ne1 _ _ (by decide), up_ne1 _ _ (by decide)]; exact h.1 i hi, fun j hj => ?_⟩
  by_cases c : j = k + 1
  · subst c
    rw [up_ne1 (b := 183) _ _ (by decide), up_eq, up_eq]; exact ⟨hx, hy⟩
  · rw [up_ne1 (b := 183) _ _ (by decide), up_ne2 _ _ c, up_ne2 _ _ c, up_ne1 (b := 184) _ _ (by decide)]; exact h.2 j (by omega)
set_option maxRecDepth 10000 in
theorem l_countP {L : Nat} {xs : Nat → Int32} {t : Bool × Nat × Nat} {d n : Nat} {m : mMM} (hn : m 75 2 = (n : Int)) (hn5 : n ≤ 5) : ∀ (c k : Nat), k + c = n → Ev (PP L xs) (d + 2) 3 4 [some (vR (some 181)), some (vI ((5 ^ k : Nat) : Int)), some (vI ((k : Nat) : Int))] [] (HS t m) (.inl (some (vI ((5 ^ n : Nat) : Int)))) (HS t m) := by
  intro c
  induction c with
  | zero =>
    intro k hk
    have ek : k = n := by omega
    subst ek
    refine ev_go (pc' := 6) (ls' := [some (vR (some 181)), some (vI ((5 ^ k : Nat) : Int)), some (vI ((k : Nat) : Int))]) (st' := [vR (some 181), vI ((k : Nat) : Int)]) (h1 := HS t m) 2 (by rfl) ?_
    refine ev_getR rfl rfl (rfl : rf 181 0 = some 78) ?_
    have hsz := c_la_size (L := L) (xs := xs) (d := d) (t := t) (m := m)
    rw [hn] at hsz
    refine ev_call rfl rfl (Nat.le_of_ble_eq_true rfl) hsz ⟨Nat.le_refl _, Nat.le_refl _⟩ ?_
    show Ev (PP L xs) _ 3 12 [some (vR (some 181)), some (vI ((5 ^ k : Nat) : Int)), some (vI ((k : Nat) : Int))] [vI ((k : Nat) : Int), vI ((k : Nat) : Int)] (HS t m) _ _
    refine ev_ic3 rfl (inI_of (by omega) (by omega)) (inI_of (by omega) (by omega)) (fun c12 => ?_) (fun c12 => absurd c12 (by omega))
    refine ev_go (pc' := 26) (ls' := [some (vR (some 181)), some (vI ((5 ^ k : Nat) : Int)), some (vI ((k : Nat) : Int))]) (st' := [vI ((5 ^ k : Nat) : Int)]) (h1 := HS t m) 1 (by rfl) ?_
    exact ev_retE rfl rfl rfl rfl
  | succ c IH =>
    intro k hk
    have h := IH (k + 1) (by omega)
    have e5 : ((5 ^ (k + 1) : Nat) : Int) = ((5 ^ k : Nat) : Int) * 5 := by rw [Nat.pow_succ]; exact Int.natCast_mul _ _
    rw [e5] at h
    refine ev_go (pc' := 6) (ls' := [some (vR (some 181)), some (vI ((5 ^ k : Nat) : Int)), some (vI ((k : Nat) : Int))]) (st' := [vR (some 181), vI ((k : Nat) : Int)]) (h1 := HS t m) 2 (by rfl) ?_
    refine ev_getR rfl rfl (rfl : rf 181 0 = some 78) ?_
    have hsz := c_la_size (L := L) (xs := xs) (d := d) (t := t) (m := m)
    rw [hn] at hsz
    refine ev_call rfl rfl (Nat.le_of_ble_eq_true rfl) hsz ⟨Nat.le_refl _, Nat.le_refl _⟩ ?_
    show Ev (PP L xs) _ 3 12 [some (vR (some 181)), some (vI ((5 ^ k : Nat) : Int)), some (vI ((k : Nat) : Int))] [vI ((n : Nat) : Int), vI ((k : Nat) : Int)] (HS t m) _ _
    refine ev_ic3 rfl (inI_of (by omega) (by omega)) (inI_of (by omega) (by omega)) (fun c12 => absurd c12 (by omega)) (fun c12 => ?_)
    refine ev_go (pc' := 4) (ls' := [some (vR (some 181)), some (vI (((5 ^ k : Nat) : Int) * 5)), some (vI ((k + 1 : Nat) : Int))]) (st' := []) (h1 := HS t m) 6 (by rfl) ?_
    exact h
set_option maxRecDepth 10000 in
theorem c_countP {L : Nat} {xs : Nat → Int32} {d : Nat} {t : Bool × Nat × Nat} {m : mMM} {n : Nat} (hn : m 75 2 = (n : Int)) (hn5 : n ≤ 5) : Ev (PP L xs) (d + 2) 3 0 (entL 3 [vR (some 181)]) [] (HS t m) (.inl (some (vI ((5 ^ n : Nat) : Int)))) (HS t m) := by
  refine ev_go (pc' := 4) (ls' := [some (vR (some 181)), some (vI 1), some (vI 0)]) (st' := []) (h1 := HS t m) 4 (by rfl) ?_
  exact l_countP (L := L) (xs := xs) (t := t) (d := d) hn hn5 n 0 (by omega)
set_option maxRecDepth 10000 in
theorem l_wf {L : Nat} {xs : Nat → Int32} {t : Bool × Nat × Nat} {d n q : Nat} {e : Int} {a0 : Nat → Int} {aa : Nat → Nat → Nat → Int} (hn5 : n ≤ 5) : ∀ (c k : Nat) (m : mMM) (z : Option mMV), k + c = n → m 75 2 = (n : Int) → LBD m → ARC m a0 aa → WQ m a0 aa n q k → ∃ m', Ev (PP L xs) (d + 2) 6 2 [some (vR (some 181)), some (vI e), some (vI ((k : Nat) : Int)), z] [] (HS t m) (.inl none) (HS t m') ∧ WQ m' a0 aa n q n ∧ FRa m m' ∧ (∀ i, m' 182 i = m 182 i) := by
  intro c
  induction c with
  | zero =>
    intro k m z hk hn hlb ha hw
    have ek : k = n := by omega
    subst ek
    refine ⟨m, ?_, hw, fun _ _ _ _ _ => rfl, fun _ => rfl⟩
    refine ev_go (pc' := 4) (ls' := [some (vR (some 181)), some (vI e), some (vI ((k : Nat) : Int)), z]) (st' := [vR (some 181), vI ((k : Nat) : Int)]) (h1 := HS t m) 2 (by rfl) ?_
    refine ev_getR rfl rfl (rfl : rf 181 0 = some 78) ?_
    have hsz := c_la_size (L := L) (xs := xs) (d := d) (t := t) (m := m)
    rw [hn] at hsz
    refine ev_call rfl rfl (Nat.le_of_ble_eq_true rfl) hsz ⟨Nat.le_refl _, Nat.le_refl _⟩ ?_
    show Ev (PP L xs) _ 6 10 [some (vR (some 181)), some (vI e), some (vI ((k : Nat) : Int)), z] [vI ((k : Nat) : Int), vI ((k : Nat) : Int)] (HS t m) _ _
    refine ev_ic3 rfl (inI_of (by omega) (by omega)) (inI_of (by omega) (by omega)) (fun c10 => ?_) (fun c10 => absurd c10 (by omega))
    exact ev_retE rfl rfl (by first | rfl | (simp [*]; done) | (split <;> first | rfl | (exfalso; omega))) (by first | rfl | (simp [*]; done) | (split <;> first | rfl | (exfalso; omega)))
  | succ c IH =>
    intro k m z hk hn hlb ha hw
    have hk5 : k < 5 := by omega
    have hwk := hw.2 k (Nat.le_refl k)
    have htk := hw.1 k (by omega)
    have hg : q / 5 ^ (n - 1 - k) % 5 < 5 := Nat.mod_lt _ (by decide)
    have hcb := cd_bd5 (show k ≤ 5 by omega) (q / 5 ^ (n - k))
    rw [← hwk.2] at hcb
    have hxt := wt_at a0 aa q n k (by omega)
    have hyt := cd_at q n k (by omega)
    rw [← hwk.1] at hxt
    rw [← hwk.2] at hyt
    by_cases k0 : k = 0
    · subst k0
      rw [if_pos rfl] at hxt
      generalize hG : q / 5 ^ (n - 1 - 0) % 5 = g at *
      rw [ha.1 g hg] at hxt
      have hF : FRa m (up (up m 183 (0 + 1) (m 183 0 * (m 86 g * m 80 g))) 184 (0 + 1) (m 184 0 * 2 ^ 3 + ((g : Nat) : Int))) := fun b j _ h1 h2 => by rw [up_ne1 _ _ h2, up_ne1 _ _ h1]
      have hw1 := WQ_next (k := 0) (by omega) hw hxt.symm hyt.symm
      obtain ⟨m2, hE2, hW2, hF2, hT2⟩ := IH (0 + 1) (up (up m 183 (0 + 1) (m 183 0 * (m 86 g * m 80 g))) 184 (0 + 1) (m 184 0 * 2 ^ 3 + ((g : Nat) : Int))) (some (vI (-1))) (by omega) (by rw [hF 75 2 (by decide) (by decide) (by decide)]; exact hn) (LBD_fra hF hlb) (ARC_fra hF ha) hw1
      refine ⟨m2, ?_, hW2, FRa_trans hF hF2, fun i => by rw [hT2 i, up_ne1 _ _ (by decide), up_ne1 _ _ (by decide)]⟩
      refine ev_go (pc' := 4) (ls' := [some (vR (some 181)), some (vI e), some (vI 0), z]) (st' := [vR (some 181), vI 0]) (h1 := HS t m) 2 (by rfl) ?_
      refine ev_getR rfl rfl (rfl : rf 181 0 = some 78) ?_
      have hsz := c_la_size (L := L) (xs := xs) (d := d) (t := t) (m := m)
      rw [hn] at hsz
      refine ev_call rfl rfl (Nat.le_of_ble_eq_true rfl) hsz ⟨Nat.le_refl _, Nat.le_refl _⟩ ?_
      show Ev (PP L xs) _ 6 10 [some (vR (some 181)), some (vI e), some (vI 0), z] [vI ((n : Nat) : Int), vI 0] (HS t m) _ _
      refine ev_ic3 rfl rfl (inI_of (by omega) (by omega)) (fun c10 => absurd c10 (by omega)) (fun c10 => ?_)
      refine ev_go (pc' := 14) (ls' := [some (vR (some 181)), some (vI e), some (vI 0), z]) (st' := [vI 0]) (h1 := HS t m) 1 (by rfl) ?_
      refine ev_if5 rfl rfl (fun c14 => ?_) (fun c14 => absurd c14 (by omega))
      refine ev_go (pc' := 31) (ls' := [some (vR (some 181)), some (vI e), some (vI 0), some (vI (-1))]) (st' := [vR (some 181)]) (h1 := HS t m) 3 (by rfl) ?_
      refine ev_getR rfl rfl (rfl : rf 181 2 = some 183) ?_
      refine ev_go (pc' := 38) (ls' := [some (vR (some 181)), some (vI e), some (vI 0), some (vI (-1))]) (st' := [vR (some 181), vI 1, vR (some 183)]) (h1 := HS t m) 4 (by rfl) ?_
      refine ev_getR rfl rfl (rfl : rf 181 2 = some 183) ?_
      refine ev_go (pc' := 42) (ls' := [some (vR (some 181)), some (vI e), some (vI 0), some (vI (-1))]) (st' := [vI 0, vR (some 183), vI 1, vR (some 183)]) (h1 := HS t m) 1 (by rfl) ?_
      refine ev_lald (k := 0) rfl rfl rfl (by omega) ?_
      refine ev_go (pc' := 44) (ls' := [some (vR (some 181)), some (vI e), some (vI 0), some (vI (-1))]) (st' := [vR (some 181), vJ (m 183 0), vI 1, vR (some 183)]) (h1 := HS t m) 1 (by rfl) ?_
      refine ev_getR rfl rfl (rfl : rf 181 0 = some 78) ?_
      refine ev_go (pc' := 50) (ls' := [some (vR (some 181)), some (vI e), some (vI 0), some (vI (-1))]) (st' := [vR (some 181), vI (-1), vI 0, vR (some 78), vJ (m 183 0), vI 1, vR (some 183)]) (h1 := HS t m) 3 (by rfl) ?_
      refine ev_getR rfl rfl (rfl : rf 181 1 = some 182) ?_
      refine ev_go (pc' := 54) (ls' := [some (vR (some 181)), some (vI e), some (vI 0), some (vI (-1))]) (st' := [vI 0, vR (some 182), vI (-1), vI 0, vR (some 78), vJ (m 183 0), vI 1, vR (some 183)]) (h1 := HS t m) 1 (by rfl) ?_
      refine ev_ialdv (k := 0) (v := ((g : Nat) : Int)) rfl rfl rfl (by omega) (htk) ?_
      have harc := c_arcN (L := L) (xs := xs) (d := d + 1) (t := t) (m := m) (p := 0) (h := g) (by omega) hg (hlb.2 0 (by omega) g hg) (hlb.1 0 (by omega) g hg)
      refine ev_call rfl rfl (Nat.le_of_ble_eq_true rfl) harc ⟨Nat.le_refl _, Nat.le_refl _⟩ ?_
      show Ev (PP L xs) _ 6 58 [some (vR (some 181)), some (vI e), some (vI 0), some (vI (-1))] [vJ (m 86 g * m 80 g), vJ (m 183 0), vI 1, vR (some 183)] (HS t m) _ _
      refine ev_go (pc' := 59) (ls' := [some (vR (some 181)), some (vI e), some (vI 0), some (vI (-1))]) (st' := [vJ ((m 183 0) * (m 86 g * m 80 g)), vI 1, vR (some 183)]) (h1 := HS t m) 1 (by rfl) ?_
      refine ev_last (k := 1) rfl rfl rfl (by omega) ?_
      refine ev_go (pc' := 61) (ls' := [some (vR (some 181)), some (vI e), some (vI 0), some (vI (-1))]) (st' := [vR (some 181)]) (h1 := HS t (up m 183 1 ((m 183 0) * (m 86 g * m 80 g)))) 1 (by rfl) ?_
      refine ev_getR rfl rfl (rfl : rf 181 3 = some 184) ?_
      refine ev_go (pc' := 68) (ls' := [some (vR (some 181)), some (vI e), some (vI 0), some (vI (-1))]) (st' := [vR (some 181), vI 1, vR (some 184)]) (h1 := HS t (up m 183 1 ((m 183 0) * (m 86 g * m 80 g)))) 4 (by rfl) ?_
      refine ev_getR rfl rfl (rfl : rf 181 3 = some 184) ?_
      refine ev_go (pc' := 72) (ls' := [some (vR (some 181)), some (vI e), some (vI 0), some (vI (-1))]) (st' := [vI 0, vR (some 184), vI 1, vR (some 184)]) (h1 := HS t (up m 183 1 ((m 183 0) * (m 86 g * m 80 g)))) 1 (by rfl) ?_
      refine ev_ialdv (k := 0) (v := (m 184 0)) rfl rfl rfl (by omega) (up_ne1 _ _ (by decide)) ?_
      refine ev_go (pc' := 74) (ls' := [some (vR (some 181)), some (vI e), some (vI 0), some (vI (-1))]) (st' := [vR (some 181), vI (m 184 0), vI 1, vR (some 184)]) (h1 := HS t (up m 183 1 ((m 183 0) * (m 86 g * m 80 g)))) 1 (by rfl) ?_
      refine ev_getR rfl rfl (rfl : rf 181 1 = some 182) ?_
      refine ev_go (pc' := 78) (ls' := [some (vR (some 181)), some (vI e), some (vI 0), some (vI (-1))]) (st' := [vI 0, vR (some 182), vI (m 184 0), vI 1, vR (some 184)]) (h1 := HS t (up m 183 1 ((m 183 0) * (m 86 g * m 80 g)))) 1 (by rfl) ?_
      refine ev_ialdv (k := 0) (v := ((g : Nat) : Int)) rfl rfl rfl (by omega) ((up_ne1 _ _ (by decide)).trans (htk)) ?_
      refine ev_call rfl rfl (Nat.le_of_ble_eq_true rfl) (c_rk_extended hcb.1 (by have := hcb.2; omega) (by omega) (by omega)) ⟨Nat.le_refl _, Nat.le_refl _⟩ ?_
      show Ev (PP L xs) _ 6 82 [some (vR (some 181)), some (vI e), some (vI 0), some (vI (-1))] [vI (m 184 0 * 2 ^ 3 + ((g : Nat) : Int)), vI 1, vR (some 184)] (HS t (up m 183 1 ((m 183 0) * (m 86 g * m 80 g)))) _ _
      refine ev_iast (k := 1) rfl rfl rfl (by omega) ?_
      refine ev_go (pc' := 2) (ls' := [some (vR (some 181)), some (vI e), some (vI 1), some (vI (-1))]) (st' := []) (h1 := HS t (up (up m 183 1 ((m 183 0) * (m 86 g * m 80 g))) 184 1 (m 184 0 * 2 ^ 3 + ((g : Nat) : Int)))) 2 (by rfl) ?_
      exact hE2
    · rw [if_neg k0] at hxt
      have hf : q / 5 ^ (n - 1 - (k - 1)) % 5 < 5 := Nat.mod_lt _ (by decide)
      have htf := hw.1 (k - 1) (by omega)
      generalize q / 5 ^ (n - 1 - (k - 1)) % 5 = f at *
      generalize hG : q / 5 ^ (n - 1 - k) % 5 = g at *
      rw [ha.2 k hk5 f hf g hg] at hxt
      have hF : FRa m (up (up m 183 (k + 1) (m 183 k * (m (86 + (f + 1)) g * m (80 + k) g))) 184 (k + 1) (m 184 k * 2 ^ 3 + ((g : Nat) : Int))) := fun b j _ h1 h2 => by rw [up_ne1 _ _ h2, up_ne1 _ _ h1]
      have hw1 := WQ_next (k := k) (by omega) hw hxt.symm hyt.symm
      obtain ⟨m2, hE2, hW2, hF2, hT2⟩ := IH (k + 1) (up (up m 183 (k + 1) (m 183 k * (m (86 + (f + 1)) g * m (80 + k) g))) 184 (k + 1) (m 184 k * 2 ^ 3 + ((g : Nat) : Int))) (some (vI (f : Int))) (by omega) (by rw [hF 75 2 (by decide) (by decide) (by decide)]; exact hn) (LBD_fra hF hlb) (ARC_fra hF ha) hw1
      refine ⟨m2, ?_, hW2, FRa_trans hF hF2, fun i => by rw [hT2 i, up_ne1 _ _ (by decide), up_ne1 _ _ (by decide)]⟩
      refine ev_go (pc' := 4) (ls' := [some (vR (some 181)), some (vI e), some (vI ((k : Nat) : Int)), z]) (st' := [vR (some 181), vI ((k : Nat) : Int)]) (h1 := HS t m) 2 (by rfl) ?_
      refine ev_getR rfl rfl (rfl : rf 181 0 = some 78) ?_
      have hsz := c_la_size (L := L) (xs := xs) (d := d) (t := t) (m := m)
      rw [hn] at hsz
      refine ev_call rfl rfl (Nat.le_of_ble_eq_true rfl) hsz ⟨Nat.le_refl _, Nat.le_refl _⟩ ?_
      show Ev (PP L xs) _ 6 10 [some (vR (some 181)), some (vI e), some (vI ((k : Nat) : Int)), z] [vI ((n : Nat) : Int), vI ((k : Nat) : Int)] (HS t m) _ _
      refine ev_ic3 rfl (inI_of (by omega) (by omega)) (inI_of (by omega) (by omega)) (fun c10 => absurd c10 (by omega)) (fun c10 => ?_)
      refine ev_go (pc' := 14) (ls' := [some (vR (some 181)), some (vI e), some (vI ((k : Nat) : Int)), z]) (st' := [vI ((k : Nat) : Int)]) (h1 := HS t m) 1 (by rfl) ?_
      refine ev_if5 rfl (inI_of (by omega) (by omega)) (fun c14 => absurd c14 (by omega)) (fun c14 => ?_)
      refine ev_go (pc' := 18) (ls' := [some (vR (some 181)), some (vI e), some (vI ((k : Nat) : Int)), z]) (st' := [vR (some 181)]) (h1 := HS t m) 1 (by rfl) ?_
      refine ev_getR rfl rfl (rfl : rf 181 1 = some 182) ?_
      refine ev_go (pc' := 24) (ls' := [some (vR (some 181)), some (vI e), some (vI ((k : Nat) : Int)), z]) (st' := [vI (((k : Nat) : Int) - 1), vR (some 182)]) (h1 := HS t m) 3 (by rfl) ?_
      refine ev_ialdv (k := (k - 1)) (v := ((f : Nat) : Int)) rfl rfl (by omega) (by omega) (htf) ?_
      refine ev_go (pc' := 31) (ls' := [some (vR (some 181)), some (vI e), some (vI ((k : Nat) : Int)), some (vI ((f : Nat) : Int))]) (st' := [vR (some 181)]) (h1 := HS t m) 3 (by rfl) ?_
      refine ev_getR rfl rfl (rfl : rf 181 2 = some 183) ?_
      refine ev_go (pc' := 38) (ls' := [some (vR (some 181)), some (vI e), some (vI ((k : Nat) : Int)), some (vI ((f : Nat) : Int))]) (st' := [vR (some 181), vI ((k + 1 : Nat) : Int), vR (some 183)]) (h1 := HS t m) 4 (by rfl) ?_
      refine ev_getR rfl rfl (rfl : rf 181 2 = some 183) ?_
      refine ev_go (pc' := 42) (ls' := [some (vR (some 181)), some (vI e), some (vI ((k : Nat) : Int)), some (vI ((f : Nat) : Int))]) (st' := [vI ((k : Nat) : Int), vR (some 183), vI ((k + 1 : Nat) : Int), vR (some 183)]) (h1 := HS t m) 1 (by rfl) ?_
      refine ev_lald (k := k) rfl rfl rfl (by omega) ?_
      refine ev_go (pc' := 44) (ls' := [some (vR (some 181)), some (vI e), some (vI ((k : Nat) : Int)), some (vI ((f : Nat) : Int))]) (st' := [vR (some 181), vJ (m 183 k), vI ((k + 1 : Nat) : Int), vR (some 183)]) (h1 := HS t m) 1 (by rfl) ?_
      refine ev_getR rfl rfl (rfl : rf 181 0 = some 78) ?_
      refine ev_go (pc' := 50) (ls' := [some (vR (some 181)), some (vI e), some (vI ((k : Nat) : Int)), some (vI ((f : Nat) : Int))]) (st' := [vR (some 181), vI ((f : Nat) : Int), vI ((k : Nat) : Int), vR (some 78), vJ (m 183 k), vI ((k + 1 : Nat) : Int), vR (some 183)]) (h1 := HS t m) 3 (by rfl) ?_
      refine ev_getR rfl rfl (rfl : rf 181 1 = some 182) ?_
      refine ev_go (pc' := 54) (ls' := [some (vR (some 181)), some (vI e), some (vI ((k : Nat) : Int)), some (vI ((f : Nat) : Int))]) (st' := [vI ((k : Nat) : Int), vR (some 182), vI ((f : Nat) : Int), vI ((k : Nat) : Int), vR (some 78), vJ (m 183 k), vI ((k + 1 : Nat) : Int), vR (some 183)]) (h1 := HS t m) 1 (by rfl) ?_
      refine ev_ialdv (k := k) (v := ((g : Nat) : Int)) rfl rfl rfl (by omega) (htk) ?_
      have harc := c_arcW (L := L) (xs := xs) (d := d + 1) (t := t) (m := m) (p := k) (g := f) (h := g) hk5 hf hg (hlb.2 (f + 1) (by omega) g hg) (hlb.1 k hk5 g hg)
      refine ev_call rfl rfl (Nat.le_of_ble_eq_true rfl) harc ⟨Nat.le_refl _, Nat.le_refl _⟩ ?_
      show Ev (PP L xs) _ 6 58 [some (vR (some 181)), some (vI e), some (vI ((k : Nat) : Int)), some (vI ((f : Nat) : Int))] [vJ (m (86 + (f + 1)) g * m (80 + k) g), vJ (m 183 k), vI ((k + 1 : Nat) : Int), vR (some 183)] (HS t m) _ _
      refine ev_go (pc' := 59) (ls' := [some (vR (some 181)), some (vI e), some (vI ((k : Nat) : Int)), some (vI ((f : Nat) : Int))]) (st' := [vJ ((m 183 k) * (m (86 + (f + 1)) g * m (80 + k) g)), vI ((k + 1 : Nat) : Int), vR (some 183)]) (h1 := HS t m) 1 (by rfl) ?_
      refine ev_last (k := (k + 1)) rfl rfl rfl (by omega) ?_
      refine ev_go (pc' := 61) (ls' := [some (vR (some 181)), some (vI e), some (vI ((k : Nat) : Int)), some (vI ((f : Nat) : Int))]) (st' := [vR (some 181)]) (h1 := HS t (up m 183 (k + 1) ((m 183 k) * (m (86 + (f + 1)) g * m (80 + k) g)))) 1 (by rfl) ?_
      refine ev_getR rfl rfl (rfl : rf 181 3 = some 184) ?_
      refine ev_go (pc' := 68) (ls' := [some (vR (some 181)), some (vI e), some (vI ((k : Nat) : Int)), some (vI ((f : Nat) : Int))]) (st' := [vR (some 181), vI ((k + 1 : Nat) : Int), vR (some 184)]) (h1 := HS t (up m 183 (k + 1) ((m 183 k) * (m (86 + (f + 1)) g * m (80 + k) g)))) 4 (by rfl) ?_
      refine ev_getR rfl rfl (rfl : rf 181 3 = some 184) ?_
      refine ev_go (pc' := 72) (ls' := [some (vR (some 181)), some (vI e), some (vI ((k : Nat) : Int)), some (vI ((f : Nat) : Int))]) (st' := [vI ((k : Nat) : Int), vR (some 184), vI ((k + 1 : Nat) : Int), vR (some 184)]) (h1 := HS t (up m 183 (k + 1) ((m 183 k) * (m (86 + (f + 1)) g * m (80 + k) g)))) 1 (by rfl) ?_
      refine ev_ialdv (k := k) (v := (m 184 k)) rfl rfl rfl (by omega) (up_ne1 _ _ (by decide)) ?_
      refine ev_go (pc' := 74) (ls' := [some (vR (some 181)), some (vI e), some (vI ((k : Nat) : Int)), some (vI ((f : Nat) : Int))]) (st' := [vR (some 181), vI (m 184 k), vI ((k + 1 : Nat) : Int), vR (some 184)]) (h1 := HS t (up m 183 (k + 1) ((m 183 k) * (m (86 + (f + 1)) g * m (80 + k) g)))) 1 (by rfl) ?_
      refine ev_getR rfl rfl (rfl : rf 181 1 = some 182) ?_
      refine ev_go (pc' := 78) (ls' := [some (vR (some 181)), some (vI e), some (vI ((k : Nat) : Int)), some (vI ((f : Nat) : Int))]) (st' := [vI ((k : Nat) : Int), vR (some 182), vI (m 184 k), vI ((k + 1 : Nat) : Int), vR (some 184)]) (h1 := HS t (up m 183 (k + 1) ((m 183 k) * (m (86 + (f + 1)) g * m (80 + k) g)))) 1 (by rfl) ?_
      refine ev_ialdv (k := k) (v := ((g : Nat) : Int)) rfl rfl rfl (by omega) ((up_ne1 _ _ (by decide)).trans (htk)) ?_
      refine ev_call rfl rfl (Nat.le_of_ble_eq_true rfl) (c_rk_extended hcb.1 (by have := hcb.2; omega) (by omega) (by omega)) ⟨Nat.le_refl _, Nat.le_refl _⟩ ?_
      show Ev (PP L xs) _ 6 82 [some (vR (some 181)), some (vI e), some (vI ((k : Nat) : Int)), some (vI ((f : Nat) : Int))] [vI (m 184 k * 2 ^ 3 + ((g : Nat) : Int)), vI ((k + 1 : Nat) : Int), vR (some 184)] (HS t (up m 183 (k + 1) ((m 183 k) * (m (86 + (f + 1)) g * m (80 + k) g)))) _ _
      refine ev_iast (k := (k + 1)) rfl rfl rfl (by omega) ?_
      refine ev_go (pc' := 2) (ls' := [some (vR (some 181)), some (vI e), some (vI ((k + 1 : Nat) : Int)), some (vI ((f : Nat) : Int))]) (st' := []) (h1 := HS t (up (up m 183 (k + 1) ((m 183 k) * (m (86 + (f + 1)) g * m (80 + k) g))) 184 (k + 1) (m 184 k * 2 ^ 3 + ((g : Nat) : Int)))) 2 (by rfl) ?_
      exact hE2
set_option maxRecDepth 10000 in
theorem c_wf {L : Nat} {xs : Nat → Int32} {t : Bool × Nat × Nat} {d n q k : Nat} {m : mMM} {a0 : Nat → Int} {aa : Nat → Nat → Nat → Int} (hn5 : n ≤ 5) (hk : k ≤ n) (hn : m 75 2 = (n : Int)) (hlb : LBD m) (ha : ARC m a0 aa) (hw : WQ m a0 aa n q k) : ∃ m', Ev (PP L xs) (d + 2) 6 0 (entL 4 [vR (some 181), vI (k : Int)]) [] (HS t m) (.inl none) (HS t m') ∧ WQ m' a0 aa n q n ∧ FRa m m' ∧ (∀ i, m' 182 i = m 182 i) := by
  obtain ⟨m1, hE, h1, h2, h3⟩ := l_wf (L := L) (xs := xs) (t := t) (d := d) (e := (k : Int)) hn5 (n - k) k m none (by omega) hn hlb ha hw
  refine ⟨m1, ?_, h1, h2, h3⟩
  refine ev_go (pc' := 2) (ls' := [some (vR (some 181)), some (vI ((k : Nat) : Int)), some (vI ((k : Nat) : Int)), none]) (st' := []) (h1 := HS t m) 2 (by rfl) ?_
  exact hE
