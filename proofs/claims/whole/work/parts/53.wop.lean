/-! ===== the model: the weight of a path, all paths gone through ===== -/
def HA (m : mMM) (a0 : Nat → Int) (aa : Nat → Nat → Nat → Int) (n : Nat) : Prop := (∀ i, i < n → inI (m 198 i) = true) ∧ (0 < n → ∀ g, g < 5 → a0 g = if m 198 0 = -1 ∨ m 198 0 = (g : Int) then m 199 (5 * 0 + g) * m 201 g else 0) ∧ ∀ p, 0 < p → p < n → ∀ f, f < 5 → ∀ g, g < 5 → aa p f g = if m 198 p = -1 ∨ m 198 p = (g : Int) then m 199 (5 * p + g) * m 200 (5 * f + g) else 0
theorem HA_fr {m m' : mMM} {a0 : Nat → Int} {aa : Nat → Nat → Nat → Int} {n : Nat} (h : ∀ b k, 198 ≤ b → b ≤ 201 → m' b k = m b k) (hA : HA m a0 aa n) : HA m' a0 aa n :=
  ⟨fun i hi => by rw [h 198 i (by decide) (by decide)]; exact hA.1 i hi, fun h0 g hg => by rw [h 198 0 (by decide) (by decide), h 199 _ (by decide) (by decide), h 201 g (by decide) (by decide)]; exact hA.2.1 h0 g hg, fun p hp hpn f hf g hg => by rw [h 198 p (by decide) (by decide), h 199 _ (by decide) (by decide), h 200 _ (by decide) (by decide)]; exact hA.2.2 p hp hpn f hf g hg⟩
theorem wt_zero (a0 : Nat → Int) (aa : Nat → Nat → Nat → Int) (q n : Nat) : ∀ c k, k + c = n → wt a0 aa k (q / 5 ^ (n - k)) = 0 → wt a0 aa n q = 0 := by
  intro c
  induction c with
  | zero => intro k hk h; have e : k = n := by omega
            subst e; rwa [Nat.sub_self, Nat.pow_zero, Nat.div_one] at h
  | succ c IH =>
    intro k hk h
    refine IH (k + 1) (by omega) ?_
    rw [wt_at a0 aa q n k (by omega), h, Int.zero_mul]
def RKM (m : mMM) (l : List Pr) : Prop := m 190 19 = (l.length : Int) ∧ l.length ≤ 10 ∧ ∀ k, k < l.length → m 202 k = (gl l k).1 ∧ m 203 k = (gl l k).2
theorem RKM_ins {m m' : mMM} {l : List Pr} {r : Nat} {w p : Int} (h : RKM m l) (hw : 0 < w) (hr : r ≤ l.length) (h1 : ∀ k, k < r → bet (w, p) (gl l k) = false) (h2 : r < l.length → bet (w, p) (gl l r) = true) (h19 : m' 190 19 = ((min 10 (l.length + 1) : Nat) : Int)) (hm : ∀ k, k < min 10 (l.length + 1) → (m' 202 k = if k < r then m 202 k else if k = r then w else m 202 (k - 1)) ∧ (m' 203 k = if k < r then m 203 k else if k = r then p else m 203 (k - 1))) : RKM m' (oL l (w, p)) := by
  have e : oL l (w, p) = (ins (w, p) l).take 10 := if_pos hw
  have hlen : (oL l (w, p)).length = min 10 (l.length + 1) := by rw [e, List.length_take, ins_len]
  refine ⟨by rw [hlen]; exact h19, by rw [hlen]; omega, fun k hk => ?_⟩
  rw [hlen] at hk
  have hg : gl (oL l (w, p)) k = if k < r then gl l k else if k = r then (w, p) else gl l (k - 1) := by
    rw [e, gl_take _ (by omega)]; exact ins_at (w, p) l r hr h1 h2 k
  have hx := hm k hk
  rw [hx.1, hx.2, hg]
  by_cases c1 : k < r
  · rw [if_pos c1, if_pos c1, if_pos c1]; exact h.2.2 k (by omega)
  · rw [if_neg c1, if_neg c1, if_neg c1]
    by_cases c2 : k = r
    · rw [if_pos c2, if_pos c2, if_pos c2]; exact ⟨rfl, rfl⟩
    · rw [if_neg c2, if_neg c2, if_neg c2]; exact h.2.2 (k - 1) (by omega)
set_option maxRecDepth 10000 in
theorem ml_wop {L : Nat} {xs : Nat → Int32} {t : Bool × Nat × Nat} {d n q : Nat} {m : mMM} {a0 : Nat → Int} {aa : Nat → Nat → Nat → Int} (hq : q < 2147483648) (hn : m 190 13 = (n : Int)) (hn5 : n ≤ 5) (hA : HA m a0 aa n) : ∀ (c k : Nat) (w : Int) (z : Option mMV), k + c = n → w = wt a0 aa k (q / 5 ^ (n - k)) → Ev (PP L xs) (d + 1) 112 5 [some (vR (some 190)), some (vI ((q : Nat) : Int)), some (vJ w), none, some (vI ((k : Nat) : Int)), z] [] (HS t m) (.inl (some (vJ (wt a0 aa n q)))) (HS t m) := by
  intro c
  induction c with
  | zero =>
    intro k w z hk hw
    have ek : k = n := by omega
    subst ek
    rw [Nat.sub_self, Nat.pow_zero, Nat.div_one] at hw
    subst hw
    refine ev_go (pc' := 8) (ls' := [some (vR (some 190)), some (vI ((q : Nat) : Int)), some (vJ (wt a0 aa k q)), none, some (vI ((k : Nat) : Int)), z]) (st' := [vR (some 190), vI ((k : Nat) : Int)]) (h1 := HS t m) 2 (by rfl) ?_
    refine ev_getIv (v := ((k : Nat) : Int)) rfl rfl (hn) ?_
    refine ev_ic3 rfl (inI_of (by omega) (by omega)) (inI_of (by omega) (by omega)) (fun c11 => ?_) (fun c11 => absurd c11 (by omega))
    refine ev_go (pc' := 105) (ls' := [some (vR (some 190)), some (vI ((q : Nat) : Int)), some (vJ (wt a0 aa k q)), none, some (vI ((k : Nat) : Int)), z]) (st' := [vJ (wt a0 aa k q)]) (h1 := HS t m) 1 (by rfl) ?_
    exact ev_retE rfl rfl rfl rfl
  | succ c IH =>
    intro k w z hk hw
    have hkn : k < n := by omega
    have hI := hA.1 k hkn
    have ht1 := m_tagAt (L := L) (xs := xs) (t := t) (d := d) (m := m) (p := k) hq hn hn5 hkn
    have hxt := wt_at a0 aa q n k hkn
    rw [← hw] at hxt
    have hz := wt_zero a0 aa q n c (k + 1) (by omega)
    rw [hxt] at hz
    have hg5 : q / 5 ^ (n - 1 - k) % 5 < 5 := Nat.mod_lt _ (by decide)
    by_cases k0 : k = 0
    · subst k0
      rw [if_pos rfl] at hxt hz
      rw [hA.2.1 (by omega) _ hg5] at hxt hz
      generalize q / 5 ^ (n - 1 - 0) % 5 = g at *
      by_cases hok : m 198 0 = -1 ∨ m 198 0 = (g : Int)
      · rw [if_pos hok] at hxt
        have h := IH (0 + 1) (w * (m 199 (5 * 0 + g) * m 201 g)) (some (vI (g : Int))) (by omega) hxt.symm
        refine ev_go (pc' := 8) (ls' := [some (vR (some 190)), some (vI ((q : Nat) : Int)), some (vJ w), none, some (vI 0), z]) (st' := [vR (some 190), vI 0]) (h1 := HS t m) 2 (by rfl) ?_
        refine ev_getIv (v := ((n : Nat) : Int)) rfl rfl (hn) ?_
        refine ev_ic3 rfl rfl (inI_of (by omega) (by omega)) (fun c11 => absurd c11 (by omega)) (fun c11 => ?_)
        refine ev_go (pc' := 18) (ls' := [some (vR (some 190)), some (vI ((q : Nat) : Int)), some (vJ w), none, some (vI 0), z]) (st' := [vI 0, vI ((q : Nat) : Int), vR (some 190)]) (h1 := HS t m) 3 (by rfl) ?_
        refine ev_call rfl rfl (Nat.le_of_ble_eq_true rfl) ht1 ⟨Nat.le_refl _, Nat.le_refl _⟩ ?_
        show Ev (PP L xs) _ 112 21 [some (vR (some 190)), some (vI ((q : Nat) : Int)), some (vJ w), none, some (vI 0), z] [vI ((g : Nat) : Int)] (HS t m) _ _
        refine ev_go (pc' := 24) (ls' := [some (vR (some 190)), some (vI ((q : Nat) : Int)), some (vJ w), none, some (vI 0), some (vI ((g : Nat) : Int))]) (st' := [vR (some 190)]) (h1 := HS t m) 2 (by rfl) ?_
        refine ev_getR rfl rfl (rfl : rf 190 12 = some 198) ?_
        refine ev_go (pc' := 29) (ls' := [some (vR (some 190)), some (vI ((q : Nat) : Int)), some (vJ w), none, some (vI 0), some (vI ((g : Nat) : Int))]) (st' := [vI 0, vR (some 198)]) (h1 := HS t m) 1 (by rfl) ?_
        refine ev_iald (k := 0) rfl rfl rfl (by omega) ?_
        refine ev_go (pc' := 31) (ls' := [some (vR (some 190)), some (vI ((q : Nat) : Int)), some (vJ w), none, some (vI 0), some (vI ((g : Nat) : Int))]) (st' := [vI (-1), vI (m 198 0)]) (h1 := HS t m) 1 (by rfl) ?_
        refine ev_ic0 rfl hI rfl (fun c31 => ?_) (fun c31 => ?_)
        · refine ev_go (pc' := 50) (ls' := [some (vR (some 190)), some (vI ((q : Nat) : Int)), some (vJ w), none, some (vI 0), some (vI ((g : Nat) : Int))]) (st' := [vR (some 190), vJ w]) (h1 := HS t m) 2 (by rfl) ?_
          refine ev_getR rfl rfl (rfl : rf 190 14 = some 199) ?_
          refine ev_go (pc' := 60) (ls' := [some (vR (some 190)), some (vI ((q : Nat) : Int)), some (vJ w), none, some (vI 0), some (vI ((g : Nat) : Int))]) (st' := [vI (0 + ((g : Nat) : Int)), vR (some 199), vJ w]) (h1 := HS t m) 5 (by rfl) ?_
          refine ev_lald (k := (5 * 0 + g)) rfl rfl (by omega) (by omega) ?_
          refine ev_go (pc' := 63) (ls' := [some (vR (some 190)), some (vI ((q : Nat) : Int)), some (vJ w), none, some (vI 0), some (vI ((g : Nat) : Int))]) (st' := [vI 0, vJ (m 199 (5 * 0 + g)), vJ w]) (h1 := HS t m) 1 (by rfl) ?_
          refine ev_if1 rfl rfl (fun c63 => absurd c63 (by omega)) (fun c63 => ?_)
          refine ev_go (pc' := 67) (ls' := [some (vR (some 190)), some (vI ((q : Nat) : Int)), some (vJ w), none, some (vI 0), some (vI ((g : Nat) : Int))]) (st' := [vR (some 190), vJ (m 199 (5 * 0 + g)), vJ w]) (h1 := HS t m) 1 (by rfl) ?_
          refine ev_getR rfl rfl (rfl : rf 190 16 = some 201) ?_
          refine ev_go (pc' := 72) (ls' := [some (vR (some 190)), some (vI ((q : Nat) : Int)), some (vJ w), none, some (vI 0), some (vI ((g : Nat) : Int))]) (st' := [vI ((g : Nat) : Int), vR (some 201), vJ (m 199 (5 * 0 + g)), vJ w]) (h1 := HS t m) 1 (by rfl) ?_
          refine ev_lald (k := g) rfl rfl rfl (by omega) ?_
          refine ev_go (pc' := 5) (ls' := [some (vR (some 190)), some (vI ((q : Nat) : Int)), some (vJ (w * ((m 199 (5 * 0 + g)) * (m 201 g)))), none, some (vI 1), some (vI ((g : Nat) : Int))]) (st' := []) (h1 := HS t m) 6 (by rfl) ?_
          exact h
        · refine ev_go (pc' := 35) (ls' := [some (vR (some 190)), some (vI ((q : Nat) : Int)), some (vJ w), none, some (vI 0), some (vI ((g : Nat) : Int))]) (st' := [vR (some 190)]) (h1 := HS t m) 1 (by rfl) ?_
          refine ev_getR rfl rfl (rfl : rf 190 12 = some 198) ?_
          refine ev_go (pc' := 40) (ls' := [some (vR (some 190)), some (vI ((q : Nat) : Int)), some (vJ w), none, some (vI 0), some (vI ((g : Nat) : Int))]) (st' := [vI 0, vR (some 198)]) (h1 := HS t m) 1 (by rfl) ?_
          refine ev_iald (k := 0) rfl rfl rfl (by omega) ?_
          refine ev_go (pc' := 43) (ls' := [some (vR (some 190)), some (vI ((q : Nat) : Int)), some (vJ w), none, some (vI 0), some (vI ((g : Nat) : Int))]) (st' := [vI ((g : Nat) : Int), vI (m 198 0)]) (h1 := HS t m) 1 (by rfl) ?_
          refine ev_ic0 rfl hI (inI_of (by omega) (by omega)) (fun c43 => ?_) (fun c43 => absurd c43 (by omega))
          refine ev_go (pc' := 50) (ls' := [some (vR (some 190)), some (vI ((q : Nat) : Int)), some (vJ w), none, some (vI 0), some (vI ((g : Nat) : Int))]) (st' := [vR (some 190), vJ w]) (h1 := HS t m) 2 (by rfl) ?_
          refine ev_getR rfl rfl (rfl : rf 190 14 = some 199) ?_
          refine ev_go (pc' := 60) (ls' := [some (vR (some 190)), some (vI ((q : Nat) : Int)), some (vJ w), none, some (vI 0), some (vI ((g : Nat) : Int))]) (st' := [vI (0 + ((g : Nat) : Int)), vR (some 199), vJ w]) (h1 := HS t m) 5 (by rfl) ?_
          refine ev_lald (k := (5 * 0 + g)) rfl rfl (by omega) (by omega) ?_
          refine ev_go (pc' := 63) (ls' := [some (vR (some 190)), some (vI ((q : Nat) : Int)), some (vJ w), none, some (vI 0), some (vI ((g : Nat) : Int))]) (st' := [vI 0, vJ (m 199 (5 * 0 + g)), vJ w]) (h1 := HS t m) 1 (by rfl) ?_
          refine ev_if1 rfl rfl (fun c63 => absurd c63 (by omega)) (fun c63 => ?_)
          refine ev_go (pc' := 67) (ls' := [some (vR (some 190)), some (vI ((q : Nat) : Int)), some (vJ w), none, some (vI 0), some (vI ((g : Nat) : Int))]) (st' := [vR (some 190), vJ (m 199 (5 * 0 + g)), vJ w]) (h1 := HS t m) 1 (by rfl) ?_
          refine ev_getR rfl rfl (rfl : rf 190 16 = some 201) ?_
          refine ev_go (pc' := 72) (ls' := [some (vR (some 190)), some (vI ((q : Nat) : Int)), some (vJ w), none, some (vI 0), some (vI ((g : Nat) : Int))]) (st' := [vI ((g : Nat) : Int), vR (some 201), vJ (m 199 (5 * 0 + g)), vJ w]) (h1 := HS t m) 1 (by rfl) ?_
          refine ev_lald (k := g) rfl rfl rfl (by omega) ?_
          refine ev_go (pc' := 5) (ls' := [some (vR (some 190)), some (vI ((q : Nat) : Int)), some (vJ (w * ((m 199 (5 * 0 + g)) * (m 201 g)))), none, some (vI 1), some (vI ((g : Nat) : Int))]) (st' := []) (h1 := HS t m) 6 (by rfl) ?_
          exact h
      · rw [if_neg hok] at hxt hz
        rw [hz (Int.mul_zero w)]
        refine ev_go (pc' := 8) (ls' := [some (vR (some 190)), some (vI ((q : Nat) : Int)), some (vJ w), none, some (vI 0), z]) (st' := [vR (some 190), vI 0]) (h1 := HS t m) 2 (by rfl) ?_
        refine ev_getIv (v := ((n : Nat) : Int)) rfl rfl (hn) ?_
        refine ev_ic3 rfl rfl (inI_of (by omega) (by omega)) (fun c11 => absurd c11 (by omega)) (fun c11 => ?_)
        refine ev_go (pc' := 18) (ls' := [some (vR (some 190)), some (vI ((q : Nat) : Int)), some (vJ w), none, some (vI 0), z]) (st' := [vI 0, vI ((q : Nat) : Int), vR (some 190)]) (h1 := HS t m) 3 (by rfl) ?_
        refine ev_call rfl rfl (Nat.le_of_ble_eq_true rfl) ht1 ⟨Nat.le_refl _, Nat.le_refl _⟩ ?_
        show Ev (PP L xs) _ 112 21 [some (vR (some 190)), some (vI ((q : Nat) : Int)), some (vJ w), none, some (vI 0), z] [vI ((g : Nat) : Int)] (HS t m) _ _
        refine ev_go (pc' := 24) (ls' := [some (vR (some 190)), some (vI ((q : Nat) : Int)), some (vJ w), none, some (vI 0), some (vI ((g : Nat) : Int))]) (st' := [vR (some 190)]) (h1 := HS t m) 2 (by rfl) ?_
        refine ev_getR rfl rfl (rfl : rf 190 12 = some 198) ?_
        refine ev_go (pc' := 29) (ls' := [some (vR (some 190)), some (vI ((q : Nat) : Int)), some (vJ w), none, some (vI 0), some (vI ((g : Nat) : Int))]) (st' := [vI 0, vR (some 198)]) (h1 := HS t m) 1 (by rfl) ?_
        refine ev_iald (k := 0) rfl rfl rfl (by omega) ?_
        refine ev_go (pc' := 31) (ls' := [some (vR (some 190)), some (vI ((q : Nat) : Int)), some (vJ w), none, some (vI 0), some (vI ((g : Nat) : Int))]) (st' := [vI (-1), vI (m 198 0)]) (h1 := HS t m) 1 (by rfl) ?_
        refine ev_ic0 rfl hI rfl (fun c31 => absurd c31 (by omega)) (fun c31 => ?_)
        refine ev_go (pc' := 35) (ls' := [some (vR (some 190)), some (vI ((q : Nat) : Int)), some (vJ w), none, some (vI 0), some (vI ((g : Nat) : Int))]) (st' := [vR (some 190)]) (h1 := HS t m) 1 (by rfl) ?_
        refine ev_getR rfl rfl (rfl : rf 190 12 = some 198) ?_
        refine ev_go (pc' := 40) (ls' := [some (vR (some 190)), some (vI ((q : Nat) : Int)), some (vJ w), none, some (vI 0), some (vI ((g : Nat) : Int))]) (st' := [vI 0, vR (some 198)]) (h1 := HS t m) 1 (by rfl) ?_
        refine ev_iald (k := 0) rfl rfl rfl (by omega) ?_
        refine ev_go (pc' := 43) (ls' := [some (vR (some 190)), some (vI ((q : Nat) : Int)), some (vJ w), none, some (vI 0), some (vI ((g : Nat) : Int))]) (st' := [vI ((g : Nat) : Int), vI (m 198 0)]) (h1 := HS t m) 1 (by rfl) ?_
        refine ev_ic0 rfl hI (inI_of (by omega) (by omega)) (fun c43 => absurd c43 (by omega)) (fun c43 => ?_)
        refine ev_go (pc' := 47) (ls' := [some (vR (some 190)), some (vI ((q : Nat) : Int)), some (vJ w), none, some (vI 0), some (vI ((g : Nat) : Int))]) (st' := [vJ 0]) (h1 := HS t m) 1 (by rfl) ?_
        exact ev_retE rfl rfl rfl rfl
    · rw [if_neg k0] at hxt hz
      have ht2 := m_tagAt (L := L) (xs := xs) (t := t) (d := d) (m := m) (p := k - 1) hq hn hn5 (by omega)
      have hf5 : q / 5 ^ (n - 1 - (k - 1)) % 5 < 5 := Nat.mod_lt _ (by decide)
      rw [hA.2.2 k (by omega) hkn _ hf5 _ hg5] at hxt hz
      generalize q / 5 ^ (n - 1 - (k - 1)) % 5 = f at *
      generalize q / 5 ^ (n - 1 - k) % 5 = g at *
      by_cases hok : m 198 k = -1 ∨ m 198 k = (g : Int)
      · rw [if_pos hok] at hxt
        have h := IH (k + 1) (w * (m 199 (5 * k + g) * m 200 (5 * f + g))) (some (vI (g : Int))) (by omega) hxt.symm
        refine ev_go (pc' := 8) (ls' := [some (vR (some 190)), some (vI ((q : Nat) : Int)), some (vJ w), none, some (vI ((k : Nat) : Int)), z]) (st' := [vR (some 190), vI ((k : Nat) : Int)]) (h1 := HS t m) 2 (by rfl) ?_
        refine ev_getIv (v := ((n : Nat) : Int)) rfl rfl (hn) ?_
        refine ev_ic3 rfl (inI_of (by omega) (by omega)) (inI_of (by omega) (by omega)) (fun c11 => absurd c11 (by omega)) (fun c11 => ?_)
        refine ev_go (pc' := 18) (ls' := [some (vR (some 190)), some (vI ((q : Nat) : Int)), some (vJ w), none, some (vI ((k : Nat) : Int)), z]) (st' := [vI ((k : Nat) : Int), vI ((q : Nat) : Int), vR (some 190)]) (h1 := HS t m) 3 (by rfl) ?_
        refine ev_call rfl rfl (Nat.le_of_ble_eq_true rfl) ht1 ⟨Nat.le_refl _, Nat.le_refl _⟩ ?_
        show Ev (PP L xs) _ 112 21 [some (vR (some 190)), some (vI ((q : Nat) : Int)), some (vJ w), none, some (vI ((k : Nat) : Int)), z] [vI ((g : Nat) : Int)] (HS t m) _ _
        refine ev_go (pc' := 24) (ls' := [some (vR (some 190)), some (vI ((q : Nat) : Int)), some (vJ w), none, some (vI ((k : Nat) : Int)), some (vI ((g : Nat) : Int))]) (st' := [vR (some 190)]) (h1 := HS t m) 2 (by rfl) ?_
        refine ev_getR rfl rfl (rfl : rf 190 12 = some 198) ?_
        refine ev_go (pc' := 29) (ls' := [some (vR (some 190)), some (vI ((q : Nat) : Int)), some (vJ w), none, some (vI ((k : Nat) : Int)), some (vI ((g : Nat) : Int))]) (st' := [vI ((k : Nat) : Int), vR (some 198)]) (h1 := HS t m) 1 (by rfl) ?_
        refine ev_iald (k := k) rfl rfl rfl (by omega) ?_
        refine ev_go (pc' := 31) (ls' := [some (vR (some 190)), some (vI ((q : Nat) : Int)), some (vJ w), none, some (vI ((k : Nat) : Int)), some (vI ((g : Nat) : Int))]) (st' := [vI (-1), vI (m 198 k)]) (h1 := HS t m) 1 (by rfl) ?_
        refine ev_ic0 rfl hI rfl (fun c31 => ?_) (fun c31 => ?_)
        · refine ev_go (pc' := 50) (ls' := [some (vR (some 190)), some (vI ((q : Nat) : Int)), some (vJ w), none, some (vI ((k : Nat) : Int)), some (vI ((g : Nat) : Int))]) (st' := [vR (some 190), vJ w]) (h1 := HS t m) 2 (by rfl) ?_
          refine ev_getR rfl rfl (rfl : rf 190 14 = some 199) ?_
          refine ev_go (pc' := 60) (ls' := [some (vR (some 190)), some (vI ((q : Nat) : Int)), some (vJ w), none, some (vI ((k : Nat) : Int)), some (vI ((g : Nat) : Int))]) (st' := [vI ((5 * ((k : Nat) : Int)) + ((g : Nat) : Int)), vR (some 199), vJ w]) (h1 := HS t m) 5 (by rfl) ?_
          refine ev_lald (k := (5 * k + g)) rfl rfl (by omega) (by omega) ?_
          refine ev_go (pc' := 63) (ls' := [some (vR (some 190)), some (vI ((q : Nat) : Int)), some (vJ w), none, some (vI ((k : Nat) : Int)), some (vI ((g : Nat) : Int))]) (st' := [vI ((k : Nat) : Int), vJ (m 199 (5 * k + g)), vJ w]) (h1 := HS t m) 1 (by rfl) ?_
          refine ev_if1 rfl (inI_of (by omega) (by omega)) (fun c63 => ?_) (fun c63 => absurd c63 (by omega))
          refine ev_go (pc' := 77) (ls' := [some (vR (some 190)), some (vI ((q : Nat) : Int)), some (vJ w), none, some (vI ((k : Nat) : Int)), some (vI ((g : Nat) : Int))]) (st' := [vR (some 190), vJ (m 199 (5 * k + g)), vJ w]) (h1 := HS t m) 1 (by rfl) ?_
          refine ev_getR rfl rfl (rfl : rf 190 15 = some 200) ?_
          refine ev_go (pc' := 87) (ls' := [some (vR (some 190)), some (vI ((q : Nat) : Int)), some (vJ w), none, some (vI ((k : Nat) : Int)), some (vI ((g : Nat) : Int))]) (st' := [vI (((k : Nat) : Int) - 1), vI ((q : Nat) : Int), vR (some 190), vI 5, vR (some 200), vJ (m 199 (5 * k + g)), vJ w]) (h1 := HS t m) 6 (by rfl) ?_
          rw [show (((k : Nat) : Int) - 1) = ((k - 1 : Nat) : Int) by omega]
          refine ev_call rfl rfl (Nat.le_of_ble_eq_true rfl) ht2 ⟨Nat.le_refl _, Nat.le_refl _⟩ ?_
          show Ev (PP L xs) _ 112 90 [some (vR (some 190)), some (vI ((q : Nat) : Int)), some (vJ w), none, some (vI ((k : Nat) : Int)), some (vI ((g : Nat) : Int))] [vI ((f : Nat) : Int), vI 5, vR (some 200), vJ (m 199 (5 * k + g)), vJ w] (HS t m) _ _
          refine ev_go (pc' := 94) (ls' := [some (vR (some 190)), some (vI ((q : Nat) : Int)), some (vJ w), none, some (vI ((k : Nat) : Int)), some (vI ((g : Nat) : Int))]) (st' := [vI ((5 * ((f : Nat) : Int)) + ((g : Nat) : Int)), vR (some 200), vJ (m 199 (5 * k + g)), vJ w]) (h1 := HS t m) 3 (by rfl) ?_
          refine ev_lald (k := (5 * f + g)) rfl rfl (by omega) (by omega) ?_
          refine ev_go (pc' := 5) (ls' := [some (vR (some 190)), some (vI ((q : Nat) : Int)), some (vJ (w * ((m 199 (5 * k + g)) * (m 200 (5 * f + g))))), none, some (vI ((k + 1 : Nat) : Int)), some (vI ((g : Nat) : Int))]) (st' := []) (h1 := HS t m) 5 (by rfl) ?_
          exact h
        · refine ev_go (pc' := 35) (ls' := [some (vR (some 190)), some (vI ((q : Nat) : Int)), some (vJ w), none, some (vI ((k : Nat) : Int)), some (vI ((g : Nat) : Int))]) (st' := [vR (some 190)]) (h1 := HS t m) 1 (by rfl) ?_
          refine ev_getR rfl rfl (rfl : rf 190 12 = some 198) ?_
          refine ev_go (pc' := 40) (ls' := [some (vR (some 190)), some (vI ((q : Nat) : Int)), some (vJ w), none, some (vI ((k : Nat) : Int)), some (vI ((g : Nat) : Int))]) (st' := [vI ((k : Nat) : Int), vR (some 198)]) (h1 := HS t m) 1 (by rfl) ?_
          refine ev_iald (k := k) rfl rfl rfl (by omega) ?_
          refine ev_go (pc' := 43) (ls' := [some (vR (some 190)), some (vI ((q : Nat) : Int)), some (vJ w), none, some (vI ((k : Nat) : Int)), some (vI ((g : Nat) : Int))]) (st' := [vI ((g : Nat) : Int), vI (m 198 k)]) (h1 := HS t m) 1 (by rfl) ?_
          refine ev_ic0 rfl hI (inI_of (by omega) (by omega)) (fun c43 => ?_) (fun c43 => absurd c43 (by omega))
          refine ev_go (pc' := 50) (ls' := [some (vR (some 190)), some (vI ((q : Nat) : Int)), some (vJ w), none, some (vI ((k : Nat) : Int)), some (vI ((g : Nat) : Int))]) (st' := [vR (some 190), vJ w]) (h1 := HS t m) 2 (by rfl) ?_
          refine ev_getR rfl rfl (rfl : rf 190 14 = some 199) ?_
          refine ev_go (pc' := 60) (ls' := [some (vR (some 190)), some (vI ((q : Nat) : Int)), some (vJ w), none, some (vI ((k : Nat) : Int)), some (vI ((g : Nat) : Int))]) (st' := [vI ((5 * ((k : Nat) : Int)) + ((g : Nat) : Int)), vR (some 199), vJ w]) (h1 := HS t m) 5 (by rfl) ?_
          refine ev_lald (k := (5 * k + g)) rfl rfl (by omega) (by omega) ?_
          refine ev_go (pc' := 63) (ls' := [some (vR (some 190)), some (vI ((q : Nat) : Int)), some (vJ w), none, some (vI ((k : Nat) : Int)), some (vI ((g : Nat) : Int))]) (st' := [vI ((k : Nat) : Int), vJ (m 199 (5 * k + g)), vJ w]) (h1 := HS t m) 1 (by rfl) ?_
          refine ev_if1 rfl (inI_of (by omega) (by omega)) (fun c63 => ?_) (fun c63 => absurd c63 (by omega))
          refine ev_go (pc' := 77) (ls' := [some (vR (some 190)), some (vI ((q : Nat) : Int)), some (vJ w), none, some (vI ((k : Nat) : Int)), some (vI ((g : Nat) : Int))]) (st' := [vR (some 190), vJ (m 199 (5 * k + g)), vJ w]) (h1 := HS t m) 1 (by rfl) ?_
          refine ev_getR rfl rfl (rfl : rf 190 15 = some 200) ?_
          refine ev_go (pc' := 87) (ls' := [some (vR (some 190)), some (vI ((q : Nat) : Int)), some (vJ w), none, some (vI ((k : Nat) : Int)), some (vI ((g : Nat) : Int))]) (st' := [vI (((k : Nat) : Int) - 1), vI ((q : Nat) : Int), vR (some 190), vI 5, vR (some 200), vJ (m 199 (5 * k + g)), vJ w]) (h1 := HS t m) 6 (by rfl) ?_
          rw [show (((k : Nat) : Int) - 1) = ((k - 1 : Nat) : Int) by omega]
          refine ev_call rfl rfl (Nat.le_of_ble_eq_true rfl) ht2 ⟨Nat.le_refl _, Nat.le_refl _⟩ ?_
          show Ev (PP L xs) _ 112 90 [some (vR (some 190)), some (vI ((q : Nat) : Int)), some (vJ w), none, some (vI ((k : Nat) : Int)), some (vI ((g : Nat) : Int))] [vI ((f : Nat) : Int), vI 5, vR (some 200), vJ (m 199 (5 * k + g)), vJ w] (HS t m) _ _
          refine ev_go (pc' := 94) (ls' := [some (vR (some 190)), some (vI ((q : Nat) : Int)), some (vJ w), none, some (vI ((k : Nat) : Int)), some (vI ((g : Nat) : Int))]) (st' := [vI ((5 * ((f : Nat) : Int)) + ((g : Nat) : Int)), vR (some 200), vJ (m 199 (5 * k + g)), vJ w]) (h1 := HS t m) 3 (by rfl) ?_
          refine ev_lald (k := (5 * f + g)) rfl rfl (by omega) (by omega) ?_
          refine ev_go (pc' := 5) (ls' := [some (vR (some 190)), some (vI ((q : Nat) : Int)), some (vJ (w * ((m 199 (5 * k + g)) * (m 200 (5 * f + g))))), none, some (vI ((k + 1 : Nat) : Int)), some (vI ((g : Nat) : Int))]) (st' := []) (h1 := HS t m) 5 (by rfl) ?_
          exact h
      · rw [if_neg hok] at hxt hz
        rw [hz (Int.mul_zero w)]
        refine ev_go (pc' := 8) (ls' := [some (vR (some 190)), some (vI ((q : Nat) : Int)), some (vJ w), none, some (vI ((k : Nat) : Int)), z]) (st' := [vR (some 190), vI ((k : Nat) : Int)]) (h1 := HS t m) 2 (by rfl) ?_
        refine ev_getIv (v := ((n : Nat) : Int)) rfl rfl (hn) ?_
        refine ev_ic3 rfl (inI_of (by omega) (by omega)) (inI_of (by omega) (by omega)) (fun c11 => absurd c11 (by omega)) (fun c11 => ?_)
        refine ev_go (pc' := 18) (ls' := [some (vR (some 190)), some (vI ((q : Nat) : Int)), some (vJ w), none, some (vI ((k : Nat) : Int)), z]) (st' := [vI ((k : Nat) : Int), vI ((q : Nat) : Int), vR (some 190)]) (h1 := HS t m) 3 (by rfl) ?_
        refine ev_call rfl rfl (Nat.le_of_ble_eq_true rfl) ht1 ⟨Nat.le_refl _, Nat.le_refl _⟩ ?_
        show Ev (PP L xs) _ 112 21 [some (vR (some 190)), some (vI ((q : Nat) : Int)), some (vJ w), none, some (vI ((k : Nat) : Int)), z] [vI ((g : Nat) : Int)] (HS t m) _ _
        refine ev_go (pc' := 24) (ls' := [some (vR (some 190)), some (vI ((q : Nat) : Int)), some (vJ w), none, some (vI ((k : Nat) : Int)), some (vI ((g : Nat) : Int))]) (st' := [vR (some 190)]) (h1 := HS t m) 2 (by rfl) ?_
        refine ev_getR rfl rfl (rfl : rf 190 12 = some 198) ?_
        refine ev_go (pc' := 29) (ls' := [some (vR (some 190)), some (vI ((q : Nat) : Int)), some (vJ w), none, some (vI ((k : Nat) : Int)), some (vI ((g : Nat) : Int))]) (st' := [vI ((k : Nat) : Int), vR (some 198)]) (h1 := HS t m) 1 (by rfl) ?_
        refine ev_iald (k := k) rfl rfl rfl (by omega) ?_
        refine ev_go (pc' := 31) (ls' := [some (vR (some 190)), some (vI ((q : Nat) : Int)), some (vJ w), none, some (vI ((k : Nat) : Int)), some (vI ((g : Nat) : Int))]) (st' := [vI (-1), vI (m 198 k)]) (h1 := HS t m) 1 (by rfl) ?_
        refine ev_ic0 rfl hI rfl (fun c31 => absurd c31 (by omega)) (fun c31 => ?_)
        refine ev_go (pc' := 35) (ls' := [some (vR (some 190)), some (vI ((q : Nat) : Int)), some (vJ w), none, some (vI ((k : Nat) : Int)), some (vI ((g : Nat) : Int))]) (st' := [vR (some 190)]) (h1 := HS t m) 1 (by rfl) ?_
        refine ev_getR rfl rfl (rfl : rf 190 12 = some 198) ?_
        refine ev_go (pc' := 40) (ls' := [some (vR (some 190)), some (vI ((q : Nat) : Int)), some (vJ w), none, some (vI ((k : Nat) : Int)), some (vI ((g : Nat) : Int))]) (st' := [vI ((k : Nat) : Int), vR (some 198)]) (h1 := HS t m) 1 (by rfl) ?_
        refine ev_iald (k := k) rfl rfl rfl (by omega) ?_
        refine ev_go (pc' := 43) (ls' := [some (vR (some 190)), some (vI ((q : Nat) : Int)), some (vJ w), none, some (vI ((k : Nat) : Int)), some (vI ((g : Nat) : Int))]) (st' := [vI ((g : Nat) : Int), vI (m 198 k)]) (h1 := HS t m) 1 (by rfl) ?_
        refine ev_ic0 rfl hI (inI_of (by omega) (by omega)) (fun c43 => absurd c43 (by omega)) (fun c43 => ?_)
        refine ev_go (pc' := 47) (ls' := [some (vR (some 190)), some (vI ((q : Nat) : Int)), some (vJ w), none, some (vI ((k : Nat) : Int)), some (vI ((g : Nat) : Int))]) (st' := [vJ 0]) (h1 := HS t m) 1 (by rfl) ?_
        exact ev_retE rfl rfl rfl rfl
set_option maxRecDepth 10000 in
theorem m_wop {L : Nat} {xs : Nat → Int32} {d : Nat} {t : Bool × Nat × Nat} {m : mMM} {n q : Nat} {a0 : Nat → Int} {aa : Nat → Nat → Nat → Int} (hq : q < 2147483648) (hn : m 190 13 = (n : Int)) (hn5 : n ≤ 5) (hA : HA m a0 aa n) : Ev (PP L xs) (d + 1) 112 0 (entL 6 [vR (some 190), vI ((q : Nat) : Int)]) [] (HS t m) (.inl (some (vJ (wt a0 aa n q)))) (HS t m) := by
  refine ev_go (pc' := 5) (ls' := [some (vR (some 190)), some (vI ((q : Nat) : Int)), some (vJ 1), none, some (vI 0), none]) (st' := []) (h1 := HS t m) 4 (by rfl) ?_
  exact ml_wop (L := L) (xs := xs) (t := t) (d := d) hq hn hn5 hA n 0 1 none (by omega) rfl
set_option maxRecDepth 10000 in
theorem ml_at {L : Nat} {xs : Nat → Int32} {t : Bool × Nat × Nat} {d P G q : Nat} {w : Int} {m : mMM} {l : List Pr} {z : Option mMV} (hr : RKM m l) (hwJ : inJ w = true) (hB : ∀ k, k < l.length → inJ (gl l k).1 = true) : ∀ (a : Nat), a ≤ l.length → ∃ r, r ≤ a ∧ (∀ k, r ≤ k → k < a → (gl l k).1 < w) ∧ (0 < r → ¬ (gl l (r - 1)).1 < w) ∧ ∀ o h', Ev (PP L xs) d 113 104 [some (vR (some 190)), some (vI ((P : Nat) : Int)), some (vI ((G : Nat) : Int)), some (vI ((q : Nat) : Int)), some (vJ w), none, some (vI ((r : Nat) : Int)), z] [] (HS t m) o h' → Ev (PP L xs) d 113 78 [some (vR (some 190)), some (vI ((P : Nat) : Int)), some (vI ((G : Nat) : Int)), some (vI ((q : Nat) : Int)), some (vJ w), none, some (vI ((a : Nat) : Int)), z] [] (HS t m) o h' := by
  intro a
  induction a with
  | zero =>
    intro ha
    refine ⟨0, Nat.le_refl _, fun k h1 h2 => absurd h2 (Nat.not_lt_zero k), fun h => absurd h (Nat.lt_irrefl 0), fun o h' hE => ?_⟩
    refine ev_go (pc' := 80) (ls' := [some (vR (some 190)), some (vI ((P : Nat) : Int)), some (vI ((G : Nat) : Int)), some (vI ((q : Nat) : Int)), some (vJ w), none, some (vI ((0 : Nat) : Int)), z]) (st' := [vI ((0 : Nat) : Int)]) (h1 := HS t m) 1 (by rfl) ?_
    refine ev_if5 rfl (inI_of (by omega) (by omega)) (fun c80 => ?_) (fun c80 => absurd c80 (by omega))
    exact hE
  | succ a IH =>
    intro ha
    have hl10 := hr.2.1
    by_cases c0 : (gl l a).1 < w
    · obtain ⟨r, h1, h2, h3, hK⟩ := IH (by omega)
      refine ⟨r, by omega, fun k hk1 hk2 => ?_, h3, fun o h' hE => ?_⟩
      · by_cases c1 : k = a
        · rw [c1]; exact c0
        · exact h2 k hk1 (by omega)
      · refine ev_go (pc' := 80) (ls' := [some (vR (some 190)), some (vI ((P : Nat) : Int)), some (vI ((G : Nat) : Int)), some (vI ((q : Nat) : Int)), some (vJ w), none, some (vI ((a + 1 : Nat) : Int)), z]) (st' := [vI ((a + 1 : Nat) : Int)]) (h1 := HS t m) 1 (by rfl) ?_
        refine ev_if5 rfl (inI_of (by omega) (by omega)) (fun c80 => absurd c80 (by omega)) (fun c80 => ?_)
        refine ev_go (pc' := 84) (ls' := [some (vR (some 190)), some (vI ((P : Nat) : Int)), some (vI ((G : Nat) : Int)), some (vI ((q : Nat) : Int)), some (vJ w), none, some (vI ((a + 1 : Nat) : Int)), z]) (st' := [vR (some 190)]) (h1 := HS t m) 1 (by rfl) ?_
        refine ev_getR rfl rfl (rfl : rf 190 17 = some 202) ?_
        refine ev_go (pc' := 91) (ls' := [some (vR (some 190)), some (vI ((P : Nat) : Int)), some (vI ((G : Nat) : Int)), some (vI ((q : Nat) : Int)), some (vJ w), none, some (vI ((a + 1 : Nat) : Int)), z]) (st' := [vI (((a + 1 : Nat) : Int) - 1), vR (some 202)]) (h1 := HS t m) 3 (by rfl) ?_
        refine ev_laldv (k := a) (v := ((gl l a).1)) rfl rfl (by omega) (by omega) ((hr.2.2 a (by omega)).1) ?_
        refine ev_go (pc' := 94) (ls' := [some (vR (some 190)), some (vI ((P : Nat) : Int)), some (vI ((G : Nat) : Int)), some (vI ((q : Nat) : Int)), some (vJ w), none, some (vI ((a + 1 : Nat) : Int)), z]) (st' := [vJ w, vJ ((gl l a).1)]) (h1 := HS t m) 1 (by rfl) ?_
        refine ev_lcmp rfl (hB a (by omega)) hwJ ?_
        refine ev_if3 rfl (cmp_in _ _) (fun c95 => absurd (cz_ge c95) (by omega)) (fun c95 => ?_)
        refine ev_go (pc' := 78) (ls' := [some (vR (some 190)), some (vI ((P : Nat) : Int)), some (vI ((G : Nat) : Int)), some (vI ((q : Nat) : Int)), some (vJ w), none, some (vI (((a + 1 : Nat) : Int) + (-1))), z]) (st' := []) (h1 := HS t m) 2 (by rfl) ?_
        rw [show (((a + 1 : Nat) : Int) + (-1)) = ((a : Nat) : Int) by omega]
        exact hK o h' hE
    · refine ⟨a + 1, Nat.le_refl _, fun k h1 h2 => absurd h2 (by omega), fun _ => by rw [Nat.add_sub_cancel]; exact c0, fun o h' hE => ?_⟩
      refine ev_go (pc' := 80) (ls' := [some (vR (some 190)), some (vI ((P : Nat) : Int)), some (vI ((G : Nat) : Int)), some (vI ((q : Nat) : Int)), some (vJ w), none, some (vI ((a + 1 : Nat) : Int)), z]) (st' := [vI ((a + 1 : Nat) : Int)]) (h1 := HS t m) 1 (by rfl) ?_
      refine ev_if5 rfl (inI_of (by omega) (by omega)) (fun c80 => absurd c80 (by omega)) (fun c80 => ?_)
      refine ev_go (pc' := 84) (ls' := [some (vR (some 190)), some (vI ((P : Nat) : Int)), some (vI ((G : Nat) : Int)), some (vI ((q : Nat) : Int)), some (vJ w), none, some (vI ((a + 1 : Nat) : Int)), z]) (st' := [vR (some 190)]) (h1 := HS t m) 1 (by rfl) ?_
      refine ev_getR rfl rfl (rfl : rf 190 17 = some 202) ?_
      refine ev_go (pc' := 91) (ls' := [some (vR (some 190)), some (vI ((P : Nat) : Int)), some (vI ((G : Nat) : Int)), some (vI ((q : Nat) : Int)), some (vJ w), none, some (vI ((a + 1 : Nat) : Int)), z]) (st' := [vI (((a + 1 : Nat) : Int) - 1), vR (some 202)]) (h1 := HS t m) 3 (by rfl) ?_
      refine ev_laldv (k := a) (v := ((gl l a).1)) rfl rfl (by omega) (by omega) ((hr.2.2 a (by omega)).1) ?_
      refine ev_go (pc' := 94) (ls' := [some (vR (some 190)), some (vI ((P : Nat) : Int)), some (vI ((G : Nat) : Int)), some (vI ((q : Nat) : Int)), some (vJ w), none, some (vI ((a + 1 : Nat) : Int)), z]) (st' := [vJ w, vJ ((gl l a).1)]) (h1 := HS t m) 1 (by rfl) ?_
      refine ev_lcmp rfl (hB a (by omega)) hwJ ?_
      refine ev_if3 rfl (cmp_in _ _) (fun c95 => ?_) (fun c95 => absurd (cz_lt (show _ < 0 by omega)) (by omega))
      exact hE
set_option maxRecDepth 10000 in
theorem ml_shift {L : Nat} {xs : Nat → Int32} {t : Bool × Nat × Nat} {d P G q r : Nat} {w : Int} : ∀ (i : Nat) (m : mMM), r ≤ i → i < 10 → ∃ m', (∀ k, m' 202 k = if r < k ∧ k ≤ i then m 202 (k - 1) else m 202 k) ∧ (∀ k, m' 203 k = if r < k ∧ k ≤ i then m 203 (k - 1) else m 203 k) ∧ (∀ b k, b ≠ 202 → b ≠ 203 → m' b k = m b k) ∧ ∀ o h', Ev (PP L xs) d 113 194 [some (vR (some 190)), some (vI ((P : Nat) : Int)), some (vI ((G : Nat) : Int)), some (vI ((q : Nat) : Int)), some (vJ w), none, some (vI ((r : Nat) : Int)), some (vI ((r : Nat) : Int))] [] (HS t m') o h' → Ev (PP L xs) d 113 149 [some (vR (some 190)), some (vI ((P : Nat) : Int)), some (vI ((G : Nat) : Int)), some (vI ((q : Nat) : Int)), some (vJ w), none, some (vI ((r : Nat) : Int)), some (vI ((i : Nat) : Int))] [] (HS t m) o h' := by
  intro i
  induction i with
  | zero =>
    intro m hri hi
    have er : r = 0 := by omega
    subst er
    refine ⟨m, fun k => (if_neg (by omega)).symm, fun k => (if_neg (by omega)).symm, fun _ _ _ _ => rfl, fun o h' hE => ?_⟩
    refine ev_go (pc' := 153) (ls' := [some (vR (some 190)), some (vI ((P : Nat) : Int)), some (vI ((G : Nat) : Int)), some (vI ((q : Nat) : Int)), some (vJ w), none, some (vI ((0 : Nat) : Int)), some (vI ((0 : Nat) : Int))]) (st' := [vI ((0 : Nat) : Int), vI ((0 : Nat) : Int)]) (h1 := HS t m) 2 (by rfl) ?_
    refine ev_ic5 rfl (inI_of (by omega) (by omega)) (inI_of (by omega) (by omega)) (fun c153 => ?_) (fun c153 => absurd c153 (by omega))
    exact hE
  | succ i IH =>
    intro m hri hi
    by_cases c0 : r = i + 1
    · subst c0
      refine ⟨m, fun k => (if_neg (by omega)).symm, fun k => (if_neg (by omega)).symm, fun _ _ _ _ => rfl, fun o h' hE => ?_⟩
      refine ev_go (pc' := 153) (ls' := [some (vR (some 190)), some (vI ((P : Nat) : Int)), some (vI ((G : Nat) : Int)), some (vI ((q : Nat) : Int)), some (vJ w), none, some (vI ((i + 1 : Nat) : Int)), some (vI ((i + 1 : Nat) : Int))]) (st' := [vI ((i + 1 : Nat) : Int), vI ((i + 1 : Nat) : Int)]) (h1 := HS t m) 2 (by rfl) ?_
      refine ev_ic5 rfl (inI_of (by omega) (by omega)) (inI_of (by omega) (by omega)) (fun c153 => ?_) (fun c153 => absurd c153 (by omega))
      exact hE
    · obtain ⟨m2, h1, h2, h3, hK⟩ := IH (up (up m 202 (i + 1) (m 202 i)) 203 (i + 1) (m 203 i)) (by omega) (by omega)
      refine ⟨m2, fun k => ?_, fun k => ?_, fun b k x y => by rw [h3 b k x y, up_ne1 _ _ y, up_ne1 _ _ x], fun o h' hE => ?_⟩
      · rw [h1 k]
        by_cases c1 : r < k ∧ k ≤ i
        · rw [if_pos c1, if_pos ⟨c1.1, by omega⟩, up_ne1 (b := 202) _ _ (by decide), up_ne2 _ _ (by omega)]
        · rw [if_neg c1]; rw [up_ne1 (b := 202) _ _ (by decide)]
          by_cases c2 : k = i + 1
          · rw [c2, up_eq, if_pos ⟨by omega, Nat.le_refl _⟩, Nat.add_sub_cancel]
          · rw [up_ne2 _ _ c2, if_neg (by omega)]
      · rw [h2 k]
        by_cases c1 : r < k ∧ k ≤ i
        · rw [if_pos c1, if_pos ⟨c1.1, by omega⟩, up_ne2 _ _ (by omega), up_ne1 (b := 203) _ _ (by decide)]
        · rw [if_neg c1]
          by_cases c2 : k = i + 1
          · rw [c2, up_eq, if_pos ⟨by omega, Nat.le_refl _⟩, Nat.add_sub_cancel]
          · rw [up_ne2 _ _ c2, if_neg (by omega)]; rw [up_ne1 (b := 203) _ _ (by decide)]
      · refine ev_go (pc' := 153) (ls' := [some (vR (some 190)), some (vI ((P : Nat) : Int)), some (vI ((G : Nat) : Int)), some (vI ((q : Nat) : Int)), some (vJ w), none, some (vI ((r : Nat) : Int)), some (vI ((i + 1 : Nat) : Int))]) (st' := [vI ((r : Nat) : Int), vI ((i + 1 : Nat) : Int)]) (h1 := HS t m) 2 (by rfl) ?_
        refine ev_ic5 rfl (inI_of (by omega) (by omega)) (inI_of (by omega) (by omega)) (fun c153 => absurd c153 (by omega)) (fun c153 => ?_)
        refine ev_go (pc' := 157) (ls' := [some (vR (some 190)), some (vI ((P : Nat) : Int)), some (vI ((G : Nat) : Int)), some (vI ((q : Nat) : Int)), some (vJ w), none, some (vI ((r : Nat) : Int)), some (vI ((i + 1 : Nat) : Int))]) (st' := [vR (some 190)]) (h1 := HS t m) 1 (by rfl) ?_
        refine ev_getR rfl rfl (rfl : rf 190 17 = some 202) ?_
        refine ev_go (pc' := 163) (ls' := [some (vR (some 190)), some (vI ((P : Nat) : Int)), some (vI ((G : Nat) : Int)), some (vI ((q : Nat) : Int)), some (vJ w), none, some (vI ((r : Nat) : Int)), some (vI ((i + 1 : Nat) : Int))]) (st' := [vR (some 190), vI ((i + 1 : Nat) : Int), vR (some 202)]) (h1 := HS t m) 2 (by rfl) ?_
        refine ev_getR rfl rfl (rfl : rf 190 17 = some 202) ?_
        refine ev_go (pc' := 170) (ls' := [some (vR (some 190)), some (vI ((P : Nat) : Int)), some (vI ((G : Nat) : Int)), some (vI ((q : Nat) : Int)), some (vJ w), none, some (vI ((r : Nat) : Int)), some (vI ((i + 1 : Nat) : Int))]) (st' := [vI (((i + 1 : Nat) : Int) - 1), vR (some 202), vI ((i + 1 : Nat) : Int), vR (some 202)]) (h1 := HS t m) 3 (by rfl) ?_
        refine ev_lald (k := i) rfl rfl (by omega) (by omega) ?_
        refine ev_last (k := (i + 1)) rfl rfl rfl (by omega) ?_
        refine ev_go (pc' := 173) (ls' := [some (vR (some 190)), some (vI ((P : Nat) : Int)), some (vI ((G : Nat) : Int)), some (vI ((q : Nat) : Int)), some (vJ w), none, some (vI ((r : Nat) : Int)), some (vI ((i + 1 : Nat) : Int))]) (st' := [vR (some 190)]) (h1 := HS t (up m 202 (i + 1) (m 202 i))) 1 (by rfl) ?_
        refine ev_getR rfl rfl (rfl : rf 190 18 = some 203) ?_
        refine ev_go (pc' := 179) (ls' := [some (vR (some 190)), some (vI ((P : Nat) : Int)), some (vI ((G : Nat) : Int)), some (vI ((q : Nat) : Int)), some (vJ w), none, some (vI ((r : Nat) : Int)), some (vI ((i + 1 : Nat) : Int))]) (st' := [vR (some 190), vI ((i + 1 : Nat) : Int), vR (some 203)]) (h1 := HS t (up m 202 (i + 1) (m 202 i))) 2 (by rfl) ?_
        refine ev_getR rfl rfl (rfl : rf 190 18 = some 203) ?_
        refine ev_go (pc' := 186) (ls' := [some (vR (some 190)), some (vI ((P : Nat) : Int)), some (vI ((G : Nat) : Int)), some (vI ((q : Nat) : Int)), some (vJ w), none, some (vI ((r : Nat) : Int)), some (vI ((i + 1 : Nat) : Int))]) (st' := [vI (((i + 1 : Nat) : Int) - 1), vR (some 203), vI ((i + 1 : Nat) : Int), vR (some 203)]) (h1 := HS t (up m 202 (i + 1) (m 202 i))) 3 (by rfl) ?_
        refine ev_ialdv (k := i) (v := (m 203 i)) rfl rfl (by omega) (by omega) (up_ne1 _ _ (by decide)) ?_
        refine ev_iast (k := (i + 1)) rfl rfl rfl (by omega) ?_
        refine ev_go (pc' := 149) (ls' := [some (vR (some 190)), some (vI ((P : Nat) : Int)), some (vI ((G : Nat) : Int)), some (vI ((q : Nat) : Int)), some (vJ w), none, some (vI ((r : Nat) : Int)), some (vI (((i + 1 : Nat) : Int) + (-1)))]) (st' := []) (h1 := HS t (up (up m 202 (i + 1) (m 202 i)) 203 (i + 1) (m 203 i))) 2 (by rfl) ?_
        rw [show (((i + 1 : Nat) : Int) + (-1)) = ((i : Nat) : Int) by omega]
        exact hK o h' hE
