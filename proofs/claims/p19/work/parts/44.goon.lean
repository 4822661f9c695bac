/-! ===== the walk over all paths: from a path to the next ===== -/
theorem inc_eq {q c : Nat} (h : q % 5 ^ c = 5 ^ c - 1) : q + 1 = 5 ^ c * (q / 5 ^ c + 1) := by
  have h1 := Nat.div_add_mod q (5 ^ c)
  have h2 : 0 < 5 ^ c := Nat.pow_pos (by decide)
  rw [Nat.mul_add, Nat.mul_one]; omega
theorem inc_at {q c : Nat} (h : q % 5 ^ c = 5 ^ c - 1) : (q + 1) / 5 ^ c = q / 5 ^ c + 1 := by
  rw [inc_eq h, Nat.mul_div_cancel_left _ (Nat.pow_pos (by decide))]
theorem pow_split {c j : Nat} (hj : c ≤ j) : 5 ^ j = 5 ^ c * 5 ^ (j - c) := by rw [← Nat.pow_add]; congr 1; omega
theorem inc_hi {q c j : Nat} (h : q % 5 ^ c = 5 ^ c - 1) (h4 : q / 5 ^ c % 5 < 4) (hj : c + 1 ≤ j) : (q + 1) / 5 ^ j = q / 5 ^ j := by
  rw [pow_split (show c ≤ j by omega), ← Nat.div_div_eq_div_mul, ← Nat.div_div_eq_div_mul, inc_at h, show j - c = 1 + (j - c - 1) by omega, Nat.pow_add, ← Nat.div_div_eq_div_mul, ← Nat.div_div_eq_div_mul, Nat.pow_one]
  congr 1; omega
theorem inc_lo {q c j : Nat} (h : q % 5 ^ c = 5 ^ c - 1) (hj : j < c) : (q + 1) / 5 ^ j % 5 = 0 := by
  rw [inc_eq h, pow_split (show j ≤ c by omega), Nat.mul_assoc, Nat.mul_div_cancel_left _ (Nat.pow_pos (by decide)), show c - j = 1 + (c - j - 1) by omega, Nat.pow_add, Nat.pow_one, Nat.mul_assoc]
  exact Nat.mul_mod_right 5 _
theorem inc_nx {q c : Nat} (h : q % 5 ^ c = 5 ^ c - 1) (h4 : q / 5 ^ c % 5 = 4) : q % 5 ^ (c + 1) = 5 ^ (c + 1) - 1 := by
  have h2 : 0 < 5 ^ c := Nat.pow_pos (by decide)
  rw [Nat.pow_succ, Nat.mod_mul, h, h4]; omega
theorem inc_end {q n : Nat} (h : q % 5 ^ n = 5 ^ n - 1) : ¬ q + 1 < 5 ^ n := by
  intro hq
  rw [Nat.mod_eq_of_lt (by omega)] at h; omega
set_option maxRecDepth 10000 in
theorem l_goOn {L : Nat} {xs : Nat → Int32} {t : Bool × Nat × Nat} {d n q : Nat} {a0 : Nat → Int} {aa : Nat → Nat → Nat → Int} (hn5 : n ≤ 5) : ∀ (p c : Nat) (m : mMM), p + c + 1 = n → m 75 2 = (n : Int) → LBD m → ARC m a0 aa → q % 5 ^ c = 5 ^ c - 1 → (∀ i, i ≤ p → m 182 i = ((q / 5 ^ (n - 1 - i) % 5 : Nat) : Int)) → (∀ i, i < n → p < i → m 182 i = 0) → (∀ k, k ≤ n → m 183 k = wt a0 aa k (q / 5 ^ (n - k)) ∧ m 184 k = cd k (q / 5 ^ (n - k))) → ∃ m', Ev (PP L xs) (d + 3) 5 10 [some (vR (some 181)), some (vI ((p : Nat) : Int))] [] (HS t m) (.inl none) (HS t m') ∧ (q + 1 < 5 ^ n → WQ m' a0 aa n (q + 1) n) ∧ FRa m m' := by
  intro p
  induction p with
  | zero =>
    intro c m hp hn hlb ha hc ht hz hw
    have htp := ht 0 (by omega)
    rw [show n - 1 - 0 = c by omega] at htp
    have hg5 : q / 5 ^ c % 5 < 5 := Nat.mod_lt _ (by decide)
    generalize hG : q / 5 ^ c % 5 = g at *
    by_cases c4 : g < 4
    · have hF : FRa m (up m 182 0 (((g : Nat) : Int) + 1)) := fun b j h1 _ _ => up_ne1 _ _ h1
      have hg4 : q / 5 ^ c % 5 < 4 := by omega
      have hw1 : WQ (up m 182 0 (((g : Nat) : Int) + 1)) a0 aa n (q + 1) 0 := by
        refine ⟨fun i hi => ?_, fun k hk => ?_⟩
        · by_cases c1 : i = 0
          · rw [c1, up_eq, show n - 1 - 0 = c by omega, inc_at hc]; omega
          · rw [up_ne2 _ _ c1]
            by_cases c2 : i < 0
            · rw [inc_hi hc hg4 (by omega)]; exact ht i (by omega)
            · rw [inc_lo hc (by omega)]; exact hz i hi (by omega)
        · rw [up_ne1 (b := 183) _ _ (by decide), up_ne1 (b := 184) _ _ (by decide), inc_hi hc hg4 (by omega)]; exact hw k (by omega)
      obtain ⟨m2, hE2, hW2, hF2, -⟩ := c_wf (L := L) (xs := xs) (t := t) (d := d) (k := 0) (n := n) (q := q + 1) hn5 (by omega) (by rw [hF 75 2 (by decide) (by decide) (by decide)]; exact hn) (LBD_fra hF hlb) (ARC_fra hF ha) hw1
      refine ⟨m2, ?_, fun _ => hW2, FRa_trans hF hF2⟩
      refine ev_go (pc' := 11) (ls' := [some (vR (some 181)), some (vI 0)]) (st' := [vI 0]) (h1 := HS t m) 1 (by rfl) ?_
      refine ev_if5 rfl rfl (fun c11 => ?_) (fun c11 => absurd c11 (by omega))
      refine ev_go (pc' := 38) (ls' := [some (vR (some 181)), some (vI 0)]) (st' := [vI 0]) (h1 := HS t m) 1 (by rfl) ?_
      refine ev_if2 rfl rfl (fun c38 => absurd c38 (by omega)) (fun c38 => ?_)
      refine ev_go (pc' := 42) (ls' := [some (vR (some 181)), some (vI 0)]) (st' := [vR (some 181)]) (h1 := HS t m) 1 (by rfl) ?_
      refine ev_getR rfl rfl (rfl : rf 181 1 = some 182) ?_
      refine ev_go (pc' := 46) (ls' := [some (vR (some 181)), some (vI 0)]) (st' := [vI 0, vR (some 182)]) (h1 := HS t m) 1 (by rfl) ?_
      refine ev_ialdv (k := 0) (v := ((g : Nat) : Int)) rfl rfl rfl (by omega) (htp) ?_
      refine ev_go (pc' := 48) (ls' := [some (vR (some 181)), some (vI 0)]) (st' := [vI 4, vI ((g : Nat) : Int)]) (h1 := HS t m) 1 (by rfl) ?_
      refine ev_ic3 rfl (inI_of (by omega) (by omega)) rfl (fun c48 => absurd c48 (by omega)) (fun c48 => ?_)
      refine ev_go (pc' := 52) (ls' := [some (vR (some 181)), some (vI 0)]) (st' := [vR (some 181)]) (h1 := HS t m) 1 (by rfl) ?_
      refine ev_getR rfl rfl (rfl : rf 181 1 = some 182) ?_
      refine ev_go (pc' := 57) (ls' := [some (vR (some 181)), some (vI 0)]) (st' := [vI 0, vR (some 182), vI 0, vR (some 182)]) (h1 := HS t m) 2 (by rfl) ?_
      refine ev_ialdv (k := 0) (v := ((g : Nat) : Int)) rfl rfl rfl (by omega) (htp) ?_
      refine ev_go (pc' := 60) (ls' := [some (vR (some 181)), some (vI 0)]) (st' := [vI ((g + 1 : Nat) : Int), vI 0, vR (some 182)]) (h1 := HS t m) 2 (by rfl) ?_
      refine ev_iast (k := 0) rfl rfl rfl (by omega) ?_
      refine ev_go (pc' := 63) (ls' := [some (vR (some 181)), some (vI 0)]) (st' := [vI 0, vR (some 181)]) (h1 := HS t (up m 182 0 ((g + 1 : Nat) : Int))) 2 (by rfl) ?_
      refine ev_call rfl rfl (Nat.le_of_ble_eq_true rfl) hE2 ⟨Nat.le_refl _, Nat.le_refl _⟩ ?_
      show Ev (PP L xs) _ 5 66 [some (vR (some 181)), some (vI 0)] [] (HS t m2) _ _
      exact ev_retE rfl rfl (by first | rfl | (simp [*]; done) | (split <;> first | rfl | (exfalso; omega))) (by first | rfl | (simp [*]; done) | (split <;> first | rfl | (exfalso; omega)))
    · have e4 : g = 4 := by omega
      have hend := inc_nx hc (hG.trans e4)
      rw [show c + 1 = n by omega] at hend
      refine ⟨m, ?_, fun h => absurd h (inc_end hend), fun _ _ _ _ _ => rfl⟩
      refine ev_go (pc' := 11) (ls' := [some (vR (some 181)), some (vI 0)]) (st' := [vI 0]) (h1 := HS t m) 1 (by rfl) ?_
      refine ev_if5 rfl rfl (fun c11 => ?_) (fun c11 => absurd c11 (by omega))
      refine ev_go (pc' := 38) (ls' := [some (vR (some 181)), some (vI 0)]) (st' := [vI 0]) (h1 := HS t m) 1 (by rfl) ?_
      refine ev_if2 rfl rfl (fun c38 => absurd c38 (by omega)) (fun c38 => ?_)
      refine ev_go (pc' := 42) (ls' := [some (vR (some 181)), some (vI 0)]) (st' := [vR (some 181)]) (h1 := HS t m) 1 (by rfl) ?_
      refine ev_getR rfl rfl (rfl : rf 181 1 = some 182) ?_
      refine ev_go (pc' := 46) (ls' := [some (vR (some 181)), some (vI 0)]) (st' := [vI 0, vR (some 182)]) (h1 := HS t m) 1 (by rfl) ?_
      refine ev_ialdv (k := 0) (v := ((g : Nat) : Int)) rfl rfl rfl (by omega) (htp) ?_
      refine ev_go (pc' := 48) (ls' := [some (vR (some 181)), some (vI 0)]) (st' := [vI 4, vI ((g : Nat) : Int)]) (h1 := HS t m) 1 (by rfl) ?_
      refine ev_ic3 rfl (inI_of (by omega) (by omega)) rfl (fun c48 => ?_) (fun c48 => absurd c48 (by omega))
      exact ev_retE rfl rfl (by first | rfl | (simp [*]; done) | (split <;> first | rfl | (exfalso; omega))) (by first | rfl | (simp [*]; done) | (split <;> first | rfl | (exfalso; omega)))
  | succ p IH =>
    intro c m hp hn hlb ha hc ht hz hw
    have htp := ht (p + 1) (by omega)
    rw [show n - 1 - (p + 1) = c by omega] at htp
    have hg5 : q / 5 ^ c % 5 < 5 := Nat.mod_lt _ (by decide)
    generalize hG : q / 5 ^ c % 5 = g at *
    by_cases c4 : g < 4
    · have hF : FRa m (up m 182 (p + 1) (((g : Nat) : Int) + 1)) := fun b j h1 _ _ => up_ne1 _ _ h1
      have hg4 : q / 5 ^ c % 5 < 4 := by omega
      have hw1 : WQ (up m 182 (p + 1) (((g : Nat) : Int) + 1)) a0 aa n (q + 1) (p + 1) := by
        refine ⟨fun i hi => ?_, fun k hk => ?_⟩
        · by_cases c1 : i = (p + 1)
          · rw [c1, up_eq, show n - 1 - (p + 1) = c by omega, inc_at hc]; omega
          · rw [up_ne2 _ _ c1]
            by_cases c2 : i < (p + 1)
            · rw [inc_hi hc hg4 (by omega)]; exact ht i (by omega)
            · rw [inc_lo hc (by omega)]; exact hz i hi (by omega)
        · rw [up_ne1 (b := 183) _ _ (by decide), up_ne1 (b := 184) _ _ (by decide), inc_hi hc hg4 (by omega)]; exact hw k (by omega)
      obtain ⟨m2, hE2, hW2, hF2, -⟩ := c_wf (L := L) (xs := xs) (t := t) (d := d) (k := (p + 1)) (n := n) (q := q + 1) hn5 (by omega) (by rw [hF 75 2 (by decide) (by decide) (by decide)]; exact hn) (LBD_fra hF hlb) (ARC_fra hF ha) hw1
      refine ⟨m2, ?_, fun _ => hW2, FRa_trans hF hF2⟩
      refine ev_go (pc' := 11) (ls' := [some (vR (some 181)), some (vI ((p + 1 : Nat) : Int))]) (st' := [vI ((p + 1 : Nat) : Int)]) (h1 := HS t m) 1 (by rfl) ?_
      refine ev_if5 rfl (inI_of (by omega) (by omega)) (fun c11 => absurd c11 (by omega)) (fun c11 => ?_)
      refine ev_go (pc' := 15) (ls' := [some (vR (some 181)), some (vI ((p + 1 : Nat) : Int))]) (st' := [vR (some 181)]) (h1 := HS t m) 1 (by rfl) ?_
      refine ev_getR rfl rfl (rfl : rf 181 1 = some 182) ?_
      refine ev_go (pc' := 19) (ls' := [some (vR (some 181)), some (vI ((p + 1 : Nat) : Int))]) (st' := [vI ((p + 1 : Nat) : Int), vR (some 182)]) (h1 := HS t m) 1 (by rfl) ?_
      refine ev_ialdv (k := (p + 1)) (v := ((g : Nat) : Int)) rfl rfl rfl (by omega) (htp) ?_
      refine ev_go (pc' := 21) (ls' := [some (vR (some 181)), some (vI ((p + 1 : Nat) : Int))]) (st' := [vI 4, vI ((g : Nat) : Int)]) (h1 := HS t m) 1 (by rfl) ?_
      refine ev_ic1 rfl (inI_of (by omega) (by omega)) rfl (fun c21 => ?_) (fun c21 => absurd c21 (by omega))
      refine ev_go (pc' := 38) (ls' := [some (vR (some 181)), some (vI ((p + 1 : Nat) : Int))]) (st' := [vI ((p + 1 : Nat) : Int)]) (h1 := HS t m) 1 (by rfl) ?_
      refine ev_if2 rfl (inI_of (by omega) (by omega)) (fun c38 => absurd c38 (by omega)) (fun c38 => ?_)
      refine ev_go (pc' := 42) (ls' := [some (vR (some 181)), some (vI ((p + 1 : Nat) : Int))]) (st' := [vR (some 181)]) (h1 := HS t m) 1 (by rfl) ?_
      refine ev_getR rfl rfl (rfl : rf 181 1 = some 182) ?_
      refine ev_go (pc' := 46) (ls' := [some (vR (some 181)), some (vI ((p + 1 : Nat) : Int))]) (st' := [vI ((p + 1 : Nat) : Int), vR (some 182)]) (h1 := HS t m) 1 (by rfl) ?_
      refine ev_ialdv (k := (p + 1)) (v := ((g : Nat) : Int)) rfl rfl rfl (by omega) (htp) ?_
      refine ev_go (pc' := 48) (ls' := [some (vR (some 181)), some (vI ((p + 1 : Nat) : Int))]) (st' := [vI 4, vI ((g : Nat) : Int)]) (h1 := HS t m) 1 (by rfl) ?_
      refine ev_ic3 rfl (inI_of (by omega) (by omega)) rfl (fun c48 => absurd c48 (by omega)) (fun c48 => ?_)
      refine ev_go (pc' := 52) (ls' := [some (vR (some 181)), some (vI ((p + 1 : Nat) : Int))]) (st' := [vR (some 181)]) (h1 := HS t m) 1 (by rfl) ?_
      refine ev_getR rfl rfl (rfl : rf 181 1 = some 182) ?_
      refine ev_go (pc' := 57) (ls' := [some (vR (some 181)), some (vI ((p + 1 : Nat) : Int))]) (st' := [vI ((p + 1 : Nat) : Int), vR (some 182), vI ((p + 1 : Nat) : Int), vR (some 182)]) (h1 := HS t m) 2 (by rfl) ?_
      refine ev_ialdv (k := (p + 1)) (v := ((g : Nat) : Int)) rfl rfl rfl (by omega) (htp) ?_
      refine ev_go (pc' := 60) (ls' := [some (vR (some 181)), some (vI ((p + 1 : Nat) : Int))]) (st' := [vI ((g + 1 : Nat) : Int), vI ((p + 1 : Nat) : Int), vR (some 182)]) (h1 := HS t m) 2 (by rfl) ?_
      refine ev_iast (k := (p + 1)) rfl rfl rfl (by omega) ?_
      refine ev_go (pc' := 63) (ls' := [some (vR (some 181)), some (vI ((p + 1 : Nat) : Int))]) (st' := [vI ((p + 1 : Nat) : Int), vR (some 181)]) (h1 := HS t (up m 182 (p + 1) ((g + 1 : Nat) : Int))) 2 (by rfl) ?_
      refine ev_call rfl rfl (Nat.le_of_ble_eq_true rfl) hE2 ⟨Nat.le_refl _, Nat.le_refl _⟩ ?_
      show Ev (PP L xs) _ 5 66 [some (vR (some 181)), some (vI ((p + 1 : Nat) : Int))] [] (HS t m2) _ _
      exact ev_retE rfl rfl (by first | rfl | (simp [*]; done) | (split <;> first | rfl | (exfalso; omega))) (by first | rfl | (simp [*]; done) | (split <;> first | rfl | (exfalso; omega)))
    · have e4 : g = 4 := by omega
      have hF : FRa m (up m 182 (p + 1) 0) := fun b j h1 _ _ => up_ne1 _ _ h1
      obtain ⟨m2, hE2, hW2, hF2⟩ := IH (c + 1) (up m 182 (p + 1) 0) (by omega) (by rw [hF 75 2 (by decide) (by decide) (by decide)]; exact hn) (LBD_fra hF hlb) (ARC_fra hF ha) (inc_nx hc (hG.trans e4)) (fun i hi => by rw [up_ne2 _ _ (by omega)]; exact ht i (by omega)) (fun i hi h1 => by
        by_cases c1 : i = p + 1
        · rw [c1, up_eq]
        · rw [up_ne2 _ _ c1]; exact hz i hi (by omega)) (fun k hk => by rw [up_ne1 (b := 183) _ _ (by decide), up_ne1 (b := 184) _ _ (by decide)]; exact hw k hk)
      refine ⟨m2, ?_, hW2, FRa_trans hF hF2⟩
      refine ev_go (pc' := 11) (ls' := [some (vR (some 181)), some (vI ((p + 1 : Nat) : Int))]) (st' := [vI ((p + 1 : Nat) : Int)]) (h1 := HS t m) 1 (by rfl) ?_
      refine ev_if5 rfl (inI_of (by omega) (by omega)) (fun c11 => absurd c11 (by omega)) (fun c11 => ?_)
      refine ev_go (pc' := 15) (ls' := [some (vR (some 181)), some (vI ((p + 1 : Nat) : Int))]) (st' := [vR (some 181)]) (h1 := HS t m) 1 (by rfl) ?_
      refine ev_getR rfl rfl (rfl : rf 181 1 = some 182) ?_
      refine ev_go (pc' := 19) (ls' := [some (vR (some 181)), some (vI ((p + 1 : Nat) : Int))]) (st' := [vI ((p + 1 : Nat) : Int), vR (some 182)]) (h1 := HS t m) 1 (by rfl) ?_
      refine ev_ialdv (k := (p + 1)) (v := ((g : Nat) : Int)) rfl rfl rfl (by omega) (htp) ?_
      refine ev_go (pc' := 21) (ls' := [some (vR (some 181)), some (vI ((p + 1 : Nat) : Int))]) (st' := [vI 4, vI ((g : Nat) : Int)]) (h1 := HS t m) 1 (by rfl) ?_
      refine ev_ic1 rfl (inI_of (by omega) (by omega)) rfl (fun c21 => absurd c21 (by omega)) (fun c21 => ?_)
      refine ev_go (pc' := 25) (ls' := [some (vR (some 181)), some (vI ((p + 1 : Nat) : Int))]) (st' := [vR (some 181)]) (h1 := HS t m) 1 (by rfl) ?_
      refine ev_getR rfl rfl (rfl : rf 181 1 = some 182) ?_
      refine ev_go (pc' := 30) (ls' := [some (vR (some 181)), some (vI ((p + 1 : Nat) : Int))]) (st' := [vI 0, vI ((p + 1 : Nat) : Int), vR (some 182)]) (h1 := HS t m) 2 (by rfl) ?_
      refine ev_iast (k := (p + 1)) rfl rfl rfl (by omega) ?_
      refine ev_go (pc' := 10) (ls' := [some (vR (some 181)), some (vI (((p + 1 : Nat) : Int) + (-1)))]) (st' := []) (h1 := HS t (up m 182 (p + 1) 0)) 2 (by rfl) ?_
      rw [show ((((p + 1 : Nat) : Int)) + (-1)) = ((p : Nat) : Int) by omega]
      exact hE2
set_option maxRecDepth 10000 in
theorem c_goOn {L : Nat} {xs : Nat → Int32} {t : Bool × Nat × Nat} {d n q : Nat} {m : mMM} {a0 : Nat → Int} {aa : Nat → Nat → Nat → Int} (hn0 : 0 < n) (hn5 : n ≤ 5) (hn : m 75 2 = (n : Int)) (hlb : LBD m) (ha : ARC m a0 aa) (hw : WQ m a0 aa n q n) : ∃ m', Ev (PP L xs) (d + 3) 5 0 (entL 2 [vR (some 181)]) [] (HS t m) (.inl none) (HS t m') ∧ (q + 1 < 5 ^ n → WQ m' a0 aa n (q + 1) n) ∧ FRa m m' := by
  obtain ⟨m1, hE, h1, h2⟩ := l_goOn (L := L) (xs := xs) (t := t) (d := d) hn5 (n - 1) 0 m (by omega) hn hlb ha (Nat.mod_one q) (fun i hi => hw.1 i (by omega)) (fun i hi h => absurd h (by omega)) (fun k hk => hw.2 k hk)
  refine ⟨m1, ?_, h1, h2⟩
  refine ev_go (pc' := 1) (ls' := [some (vR (some 181)), none]) (st' := [vR (some 181)]) (h1 := HS t m) 1 (by rfl) ?_
  refine ev_getR rfl rfl (rfl : rf 181 0 = some 78) ?_
  have hsz := c_la_size (L := L) (xs := xs) (d := d + 1) (t := t) (m := m)
  rw [hn] at hsz
  refine ev_call rfl rfl (Nat.le_of_ble_eq_true rfl) hsz ⟨Nat.le_refl _, Nat.le_refl _⟩ ?_
  show Ev (PP L xs) _ 5 7 [some (vR (some 181)), none] [vI ((n : Nat) : Int)] (HS t m) _ _
  refine ev_go (pc' := 10) (ls' := [some (vR (some 181)), some (vI (((n : Nat) : Int) - 1))]) (st' := []) (h1 := HS t m) 3 (by rfl) ?_
  rw [show (((n : Nat) : Int) - 1) = ((n - 1 : Nat) : Int) by omega]
  exact hE
set_option maxRecDepth 10000 in
theorem l_start {L : Nat} {xs : Nat → Int32} {t : Bool × Nat × Nat} {d n : Nat} {a0 : Nat → Int} {aa : Nat → Nat → Nat → Int} (hn5 : n ≤ 5) : ∀ (c k : Nat) (m : mMM), k + c = n → m 75 2 = (n : Int) → LBD m → ARC m a0 aa → (∀ i, i < k → m 182 i = 0) → m 183 0 = 1 → m 184 0 = 0 → ∃ m', Ev (PP L xs) (d + 3) 4 16 [some (vR (some 181)), some (vI ((k : Nat) : Int))] [] (HS t m) (.inl none) (HS t m') ∧ WQ m' a0 aa n 0 n ∧ FRa m m' := by
  intro c
  induction c with
  | zero =>
    intro k m hk hn hlb ha hz h1 h2
    have ek : k = n := by omega
    subst ek
    have hw : WQ m a0 aa k 0 0 := ⟨fun i hi => by rw [hz i hi, Nat.zero_div]; rfl, fun j hj => by rw [show j = 0 by omega]; exact ⟨h1, h2⟩⟩
    obtain ⟨m2, hE2, hW2, hF2, -⟩ := c_wf (L := L) (xs := xs) (t := t) (d := d) (k := 0) (n := k) (q := 0) hn5 (Nat.zero_le _) hn hlb ha hw
    refine ⟨m2, ?_, hW2, hF2⟩
    refine ev_go (pc' := 18) (ls' := [some (vR (some 181)), some (vI ((k : Nat) : Int))]) (st' := [vR (some 181), vI ((k : Nat) : Int)]) (h1 := HS t m) 2 (by rfl) ?_
    refine ev_getR rfl rfl (rfl : rf 181 0 = some 78) ?_
    have hsz := c_la_size (L := L) (xs := xs) (d := d + 1) (t := t) (m := m)
    rw [hn] at hsz
    refine ev_call rfl rfl (Nat.le_of_ble_eq_true rfl) hsz ⟨Nat.le_refl _, Nat.le_refl _⟩ ?_
    show Ev (PP L xs) _ 4 24 [some (vR (some 181)), some (vI ((k : Nat) : Int))] [vI ((k : Nat) : Int), vI ((k : Nat) : Int)] (HS t m) _ _
    refine ev_ic3 rfl (inI_of (by omega) (by omega)) (inI_of (by omega) (by omega)) (fun c24 => ?_) (fun c24 => absurd c24 (by omega))
    refine ev_go (pc' := 42) (ls' := [some (vR (some 181)), some (vI ((k : Nat) : Int))]) (st' := [vI 0, vR (some 181)]) (h1 := HS t m) 2 (by rfl) ?_
    refine ev_call rfl rfl (Nat.le_of_ble_eq_true rfl) hE2 ⟨Nat.le_refl _, Nat.le_refl _⟩ ?_
    show Ev (PP L xs) _ 4 45 [some (vR (some 181)), some (vI ((k : Nat) : Int))] [] (HS t m2) _ _
    exact ev_retE rfl rfl (by first | rfl | (simp [*]; done) | (split <;> first | rfl | (exfalso; omega))) (by first | rfl | (simp [*]; done) | (split <;> first | rfl | (exfalso; omega)))
  | succ c IH =>
    intro k m hk hn hlb ha hz h1 h2
    have hF : FRa m (up m 182 k 0) := fun b j h1 _ _ => up_ne1 _ _ h1
    obtain ⟨m2, hE2, hW2, hF2⟩ := IH (k + 1) (up m 182 k 0) (by omega) (by rw [hF 75 2 (by decide) (by decide) (by decide)]; exact hn) (LBD_fra hF hlb) (ARC_fra hF ha) (fun i hi => by
      by_cases c1 : i = k
      · rw [c1, up_eq]
      · rw [up_ne2 _ _ c1]; exact hz i (by omega)) (by rw [up_ne1 _ _ (by decide)]; exact h1) (by rw [up_ne1 _ _ (by decide)]; exact h2)
    refine ⟨m2, ?_, hW2, FRa_trans hF hF2⟩
    refine ev_go (pc' := 18) (ls' := [some (vR (some 181)), some (vI ((k : Nat) : Int))]) (st' := [vR (some 181), vI ((k : Nat) : Int)]) (h1 := HS t m) 2 (by rfl) ?_
    refine ev_getR rfl rfl (rfl : rf 181 0 = some 78) ?_
    have hsz := c_la_size (L := L) (xs := xs) (d := d + 1) (t := t) (m := m)
    rw [hn] at hsz
    refine ev_call rfl rfl (Nat.le_of_ble_eq_true rfl) hsz ⟨Nat.le_refl _, Nat.le_refl _⟩ ?_
    show Ev (PP L xs) _ 4 24 [some (vR (some 181)), some (vI ((k : Nat) : Int))] [vI ((n : Nat) : Int), vI ((k : Nat) : Int)] (HS t m) _ _
    refine ev_ic3 rfl (inI_of (by omega) (by omega)) (inI_of (by omega) (by omega)) (fun c24 => absurd c24 (by omega)) (fun c24 => ?_)
    refine ev_go (pc' := 28) (ls' := [some (vR (some 181)), some (vI ((k : Nat) : Int))]) (st' := [vR (some 181)]) (h1 := HS t m) 1 (by rfl) ?_
    refine ev_getR rfl rfl (rfl : rf 181 1 = some 182) ?_
    refine ev_go (pc' := 33) (ls' := [some (vR (some 181)), some (vI ((k : Nat) : Int))]) (st' := [vI 0, vI ((k : Nat) : Int), vR (some 182)]) (h1 := HS t m) 2 (by rfl) ?_
    refine ev_iast (k := k) rfl rfl rfl (by omega) ?_
    refine ev_go (pc' := 16) (ls' := [some (vR (some 181)), some (vI ((k + 1 : Nat) : Int))]) (st' := []) (h1 := HS t (up m 182 k 0)) 2 (by rfl) ?_
    exact hE2
set_option maxRecDepth 10000 in
theorem c_start {L : Nat} {xs : Nat → Int32} {t : Bool × Nat × Nat} {d n : Nat} {m : mMM} {a0 : Nat → Int} {aa : Nat → Nat → Nat → Int} (hn5 : n ≤ 5) (hn : m 75 2 = (n : Int)) (hlb : LBD m) (ha : ARC m a0 aa) : ∃ m', Ev (PP L xs) (d + 3) 4 0 (entL 2 [vR (some 181)]) [] (HS t m) (.inl none) (HS t m') ∧ WQ m' a0 aa n 0 n ∧ FRa m m' := by
  have hF : FRa m (up (up m 183 0 1) 184 0 0) := fun b j _ h1 h2 => by rw [up_ne1 _ _ h2, up_ne1 _ _ h1]
  obtain ⟨m1, hE, h1, h2⟩ := l_start (L := L) (xs := xs) (t := t) (d := d) hn5 n 0 (up (up m 183 0 1) 184 0 0) (by omega) (by rw [hF 75 2 (by decide) (by decide) (by decide)]; exact hn) (LBD_fra hF hlb) (ARC_fra hF ha) (fun i hi => absurd hi (Nat.not_lt_zero i)) (by rw [up_ne1 _ _ (by decide), up_eq]) (up_eq _ _ _ _)
  refine ⟨m1, ?_, h1, FRa_trans hF h2⟩
  refine ev_go (pc' := 1) (ls' := [some (vR (some 181)), none]) (st' := [vR (some 181)]) (h1 := HS t m) 1 (by rfl) ?_
  refine ev_getR rfl rfl (rfl : rf 181 2 = some 183) ?_
  refine ev_go (pc' := 6) (ls' := [some (vR (some 181)), none]) (st' := [vJ 1, vI 0, vR (some 183)]) (h1 := HS t m) 2 (by rfl) ?_
  refine ev_last (k := 0) rfl rfl rfl (by omega) ?_
  refine ev_go (pc' := 8) (ls' := [some (vR (some 181)), none]) (st' := [vR (some 181)]) (h1 := HS t (up m 183 0 1)) 1 (by rfl) ?_
  refine ev_getR rfl rfl (rfl : rf 181 3 = some 184) ?_
  refine ev_go (pc' := 13) (ls' := [some (vR (some 181)), none]) (st' := [vI 0, vI 0, vR (some 184)]) (h1 := HS t (up m 183 0 1)) 2 (by rfl) ?_
  refine ev_iast (k := 0) rfl rfl rfl (by omega) ?_
  refine ev_go (pc' := 16) (ls' := [some (vR (some 181)), some (vI 0)]) (st' := []) (h1 := HS t (up (up m 183 0 1) 184 0 0)) 2 (by rfl) ?_
  exact hE
