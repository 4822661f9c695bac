/-! ===== the lattice ===== -/
set_option maxRecDepth 10000 in
theorem c_la_size {L : Nat} {xs : Nat → Int32} {d : Nat} {t : Bool × Nat × Nat} {m : mMM}  : Ev (PP L xs) (d + 1) 22 0 (entL 1 [vR (some 78)]) [] (HS t m) (.inl (some (vI (m 75 2)))) (HS t m) := by
  refine ev_go (pc' := 1) (ls' := [some (vR (some 78))]) (st' := [vR (some 78)]) (h1 := HS t m) 1 (by rfl) ?_
  refine ev_getR rfl rfl (rfl : rf 78 1 = some 75) ?_
  refine ev_call rfl rfl (Nat.le_of_ble_eq_true rfl) c_se_size ⟨Nat.le_refl _, Nat.le_refl _⟩ ?_
  show Ev (PP L xs) _ 22 7 [some (vR (some 78))] [vI (m 75 2)] (HS t m) _ _
  exact ev_retE rfl rfl (by first | rfl | (simp [*]; done) | (split <;> first | rfl | (exfalso; omega))) (by first | rfl | (simp [*]; done) | (split <;> first | rfl | (exfalso; omega)))
set_option maxRecDepth 10000 in
theorem c_arcW {L : Nat} {xs : Nat → Int32} {d : Nat} {t : Bool × Nat × Nat} {m : mMM} {p g h : Nat} (hp : p < 5) (hg : g < 5) (hh : h < 5) (b1 : 0 ≤ m (86 + (g + 1)) h ∧ m (86 + (g + 1)) h ≤ 1000) (b2 : 0 ≤ m (80 + p) h ∧ m (80 + p) h ≤ 1000) : Ev (PP L xs) d 25 0 (entL 4 [vR (some 78), vI ((p : Nat) : Int), vI ((g : Nat) : Int), vI ((h : Nat) : Int)]) [] (HS t m) (.inl (some (vJ (m (86 + (g + 1)) h * m (80 + p) h)))) (HS t m) := by
  refine ev_go (pc' := 1) (ls' := [some (vR (some 78)), some (vI ((p : Nat) : Int)), some (vI ((g : Nat) : Int)), some (vI ((h : Nat) : Int))]) (st' := [vR (some 78)]) (h1 := HS t m) 1 (by rfl) ?_
  refine ev_getR rfl rfl (rfl : rf 78 3 = some 85) ?_
  refine ev_go (pc' := 7) (ls' := [some (vR (some 78)), some (vI ((p : Nat) : Int)), some (vI ((g : Nat) : Int)), some (vI ((h : Nat) : Int))]) (st' := [vI ((g + 1 : Nat) : Int), vR (some 85)]) (h1 := HS t m) 3 (by rfl) ?_
  refine ev_aald (k := (g + 1)) rfl rfl rfl (by omega) ((rf_row6 (g + 1) (by omega)) : rf 85 (g + 1) = some (86 + (g + 1))) ?_
  refine ev_go (pc' := 9) (ls' := [some (vR (some 78)), some (vI ((p : Nat) : Int)), some (vI ((g : Nat) : Int)), some (vI ((h : Nat) : Int))]) (st' := [vI ((h : Nat) : Int), vR (some (86 + (g + 1)))]) (h1 := HS t m) 1 (by rfl) ?_
  refine ev_iald (k := h) rfl (kd_row6 (g + 1) (by omega)) rfl (by omega) ?_
  refine ev_i2l rfl (inI_of (by omega) (by omega)) ?_
  refine ev_go (pc' := 12) (ls' := [some (vR (some 78)), some (vI ((p : Nat) : Int)), some (vI ((g : Nat) : Int)), some (vI ((h : Nat) : Int))]) (st' := [vR (some 78), vJ (m (86 + (g + 1)) h)]) (h1 := HS t m) 1 (by rfl) ?_
  refine ev_getR rfl rfl (rfl : rf 78 2 = some 79) ?_
  refine ev_go (pc' := 16) (ls' := [some (vR (some 78)), some (vI ((p : Nat) : Int)), some (vI ((g : Nat) : Int)), some (vI ((h : Nat) : Int))]) (st' := [vI ((p : Nat) : Int), vR (some 79), vJ (m (86 + (g + 1)) h)]) (h1 := HS t m) 1 (by rfl) ?_
  refine ev_aald (k := p) rfl rfl rfl (by omega) ((rf_rows p hp).2.1 : rf 79 p = some (80 + p)) ?_
  refine ev_go (pc' := 18) (ls' := [some (vR (some 78)), some (vI ((p : Nat) : Int)), some (vI ((g : Nat) : Int)), some (vI ((h : Nat) : Int))]) (st' := [vI ((h : Nat) : Int), vR (some (80 + p)), vJ (m (86 + (g + 1)) h)]) (h1 := HS t m) 1 (by rfl) ?_
  refine ev_iald (k := h) rfl (kd_rows p hp).2.1 rfl (by omega) ?_
  refine ev_i2l rfl (inI_of (by omega) (by omega)) ?_
  refine ev_go (pc' := 21) (ls' := [some (vR (some 78)), some (vI ((p : Nat) : Int)), some (vI ((g : Nat) : Int)), some (vI ((h : Nat) : Int))]) (st' := [vJ ((m (86 + (g + 1)) h) * (m (80 + p) h))]) (h1 := HS t m) 1 (by rfl) ?_
  exact ev_retE rfl rfl (by first | rfl | (simp [*]; done) | (split <;> first | rfl | (exfalso; omega))) (by first | rfl | (simp [*]; done) | (split <;> first | rfl | (exfalso; omega)))
set_option maxRecDepth 10000 in
theorem c_arcN {L : Nat} {xs : Nat → Int32} {d : Nat} {t : Bool × Nat × Nat} {m : mMM} {p h : Nat} (hp : p < 5) (hh : h < 5) (b1 : 0 ≤ m 86 h ∧ m 86 h ≤ 1000) (b2 : 0 ≤ m (80 + p) h ∧ m (80 + p) h ≤ 1000) : Ev (PP L xs) d 25 0 (entL 4 [vR (some 78), vI ((p : Nat) : Int), vI (-1), vI ((h : Nat) : Int)]) [] (HS t m) (.inl (some (vJ (m 86 h * m (80 + p) h)))) (HS t m) := by
  refine ev_go (pc' := 1) (ls' := [some (vR (some 78)), some (vI ((p : Nat) : Int)), some (vI (-1)), some (vI ((h : Nat) : Int))]) (st' := [vR (some 78)]) (h1 := HS t m) 1 (by rfl) ?_
  refine ev_getR rfl rfl (rfl : rf 78 3 = some 85) ?_
  refine ev_go (pc' := 7) (ls' := [some (vR (some 78)), some (vI ((p : Nat) : Int)), some (vI (-1)), some (vI ((h : Nat) : Int))]) (st' := [vI 0, vR (some 85)]) (h1 := HS t m) 3 (by rfl) ?_
  refine ev_aald (k := 0) rfl rfl rfl (by omega) (rfl : rf 85 0 = some 86) ?_
  refine ev_go (pc' := 9) (ls' := [some (vR (some 78)), some (vI ((p : Nat) : Int)), some (vI (-1)), some (vI ((h : Nat) : Int))]) (st' := [vI ((h : Nat) : Int), vR (some 86)]) (h1 := HS t m) 1 (by rfl) ?_
  refine ev_iald (k := h) rfl rfl rfl (by omega) ?_
  refine ev_i2l rfl (inI_of (by omega) (by omega)) ?_
  refine ev_go (pc' := 12) (ls' := [some (vR (some 78)), some (vI ((p : Nat) : Int)), some (vI (-1)), some (vI ((h : Nat) : Int))]) (st' := [vR (some 78), vJ (m 86 h)]) (h1 := HS t m) 1 (by rfl) ?_
  refine ev_getR rfl rfl (rfl : rf 78 2 = some 79) ?_
  refine ev_go (pc' := 16) (ls' := [some (vR (some 78)), some (vI ((p : Nat) : Int)), some (vI (-1)), some (vI ((h : Nat) : Int))]) (st' := [vI ((p : Nat) : Int), vR (some 79), vJ (m 86 h)]) (h1 := HS t m) 1 (by rfl) ?_
  refine ev_aald (k := p) rfl rfl rfl (by omega) ((rf_rows p hp).2.1 : rf 79 p = some (80 + p)) ?_
  refine ev_go (pc' := 18) (ls' := [some (vR (some 78)), some (vI ((p : Nat) : Int)), some (vI (-1)), some (vI ((h : Nat) : Int))]) (st' := [vI ((h : Nat) : Int), vR (some (80 + p)), vJ (m 86 h)]) (h1 := HS t m) 1 (by rfl) ?_
  refine ev_iald (k := h) rfl (kd_rows p hp).2.1 rfl (by omega) ?_
  refine ev_i2l rfl (inI_of (by omega) (by omega)) ?_
  refine ev_go (pc' := 21) (ls' := [some (vR (some 78)), some (vI ((p : Nat) : Int)), some (vI (-1)), some (vI ((h : Nat) : Int))]) (st' := [vJ ((m 86 h) * (m (80 + p) h))]) (h1 := HS t m) 1 (by rfl) ?_
  exact ev_retE rfl rfl (by first | rfl | (simp [*]; done) | (split <;> first | rfl | (exfalso; omega))) (by first | rfl | (simp [*]; done) | (split <;> first | rfl | (exfalso; omega)))
set_option maxRecDepth 10000 in
theorem l_ruleOut {L : Nat} {xs : Nat → Int32} {t : Bool × Nat × Nat} {d p : Nat} (hp : p < 5) : ∀ (c i : Nat) (m : mMM), i + c = 5 → inI (m 77 p) = true → ∃ m', Ev (PP L xs) (d + 1) 24 2 [some (vR (some 78)), some (vI (p : Int)), some (vI (i : Int))] [] (HS t m) (.inl none) (HS t m') ∧ (∀ k, k < 5 → m' (80 + p) k = if i ≤ k ∧ ¬ (m 77 p = -1 ∨ m 77 p = (k : Int)) then 0 else m (80 + p) k) ∧ FRo m m' (80 + p) := by
  intro c
  induction c with
  | zero =>
    intro i m hi hI
    refine ⟨m, ?_, fun k hk => (if_neg (by omega)).symm, fun _ _ _ => rfl⟩
    refine ev_go (pc' := 4) (ls' := [some (vR (some 78)), some (vI ((p : Nat) : Int)), some (vI ((i : Nat) : Int))]) (st' := [vI 5, vI ((i : Nat) : Int)]) (h1 := HS t m) 2 (by rfl) ?_
    refine ev_ic3 rfl (inI_of (by omega) (by omega)) rfl (fun c4 => ?_) (fun c4 => absurd c4 (by omega))
    exact ev_retE rfl rfl (by first | rfl | (simp [*]; done) | (split <;> first | rfl | (exfalso; omega))) (by first | rfl | (simp [*]; done) | (split <;> first | rfl | (exfalso; omega)))
  | succ c IH =>
    intro i m hi hI
    by_cases k1 : m 77 p = -1 ∨ m 77 p = (i : Int)
    · obtain ⟨m2, hE2, hP2, hF2⟩ := IH (i + 1) m (by omega) hI
      refine ⟨m2, ?_, fun k hk => ?_, hF2⟩
      · refine ev_go (pc' := 4) (ls' := [some (vR (some 78)), some (vI ((p : Nat) : Int)), some (vI ((i : Nat) : Int))]) (st' := [vI 5, vI ((i : Nat) : Int)]) (h1 := HS t m) 2 (by rfl) ?_
        refine ev_ic3 rfl (inI_of (by omega) (by omega)) rfl (fun c4 => absurd c4 (by omega)) (fun c4 => ?_)
        refine ev_go (pc' := 8) (ls' := [some (vR (some 78)), some (vI ((p : Nat) : Int)), some (vI ((i : Nat) : Int))]) (st' := [vR (some 78)]) (h1 := HS t m) 1 (by rfl) ?_
        refine ev_getR rfl rfl (rfl : rf 78 1 = some 75) ?_
        refine ev_go (pc' := 13) (ls' := [some (vR (some 78)), some (vI ((p : Nat) : Int)), some (vI ((i : Nat) : Int))]) (st' := [vI ((i : Nat) : Int), vI ((p : Nat) : Int), vR (some 75)]) (h1 := HS t m) 2 (by rfl) ?_
        have hcl := c_se_allows (L := L) (xs := xs) (d := d) (t := t) (m := m) hp hI (inI_of (x := (i : Int)) (by omega) (by omega))
        rw [if_pos k1] at hcl
        refine ev_call rfl rfl (Nat.le_of_ble_eq_true rfl) hcl ⟨Nat.le_refl _, Nat.le_refl _⟩ ?_
        show Ev (PP L xs) _ 24 16 [some (vR (some 78)), some (vI ((p : Nat) : Int)), some (vI ((i : Nat) : Int))] [vI 1] (HS t m) _ _
        refine ev_if1 rfl rfl (fun c16 => ?_) (fun c16 => absurd c16 (by decide))
        refine ev_go (pc' := 2) (ls' := [some (vR (some 78)), some (vI ((p : Nat) : Int)), some (vI ((i + 1 : Nat) : Int))]) (st' := []) (h1 := HS t m) 2 (by rfl) ?_
        exact hE2
      · rw [hP2 k hk]
        by_cases c1 : i + 1 ≤ k ∧ ¬ (m 77 p = -1 ∨ m 77 p = (k : Int))
        · rw [if_pos c1, if_pos ⟨by omega, c1.2⟩]
        · rw [if_neg c1, if_neg]; intro h2
          by_cases h3 : i < k
          · exact c1 ⟨h3, h2.2⟩
          · have e : k = i := by omega
            rw [e] at h2
            exact h2.2 k1
    · obtain ⟨m2, hE2, hP2, hF2⟩ := IH (i + 1) (up m (80 + p) i 0) (by omega) (by rw [up_ne1 _ _ (by omega)]; exact hI)
      refine ⟨m2, ?_, fun k hk => ?_, fun c k hc => (hF2 c k hc).trans (up_ne1 _ _ hc)⟩
      · refine ev_go (pc' := 4) (ls' := [some (vR (some 78)), some (vI ((p : Nat) : Int)), some (vI ((i : Nat) : Int))]) (st' := [vI 5, vI ((i : Nat) : Int)]) (h1 := HS t m) 2 (by rfl) ?_
        refine ev_ic3 rfl (inI_of (by omega) (by omega)) rfl (fun c4 => absurd c4 (by omega)) (fun c4 => ?_)
        refine ev_go (pc' := 8) (ls' := [some (vR (some 78)), some (vI ((p : Nat) : Int)), some (vI ((i : Nat) : Int))]) (st' := [vR (some 78)]) (h1 := HS t m) 1 (by rfl) ?_
        refine ev_getR rfl rfl (rfl : rf 78 1 = some 75) ?_
        refine ev_go (pc' := 13) (ls' := [some (vR (some 78)), some (vI ((p : Nat) : Int)), some (vI ((i : Nat) : Int))]) (st' := [vI ((i : Nat) : Int), vI ((p : Nat) : Int), vR (some 75)]) (h1 := HS t m) 2 (by rfl) ?_
        have hcl := c_se_allows (L := L) (xs := xs) (d := d) (t := t) (m := m) hp hI (inI_of (x := (i : Int)) (by omega) (by omega))
        rw [if_neg k1] at hcl
        refine ev_call rfl rfl (Nat.le_of_ble_eq_true rfl) hcl ⟨Nat.le_refl _, Nat.le_refl _⟩ ?_
        show Ev (PP L xs) _ 24 16 [some (vR (some 78)), some (vI ((p : Nat) : Int)), some (vI ((i : Nat) : Int))] [vI 0] (HS t m) _ _
        refine ev_if1 rfl rfl (fun c16 => absurd c16 (by decide)) (fun c16 => ?_)
        refine ev_go (pc' := 20) (ls' := [some (vR (some 78)), some (vI ((p : Nat) : Int)), some (vI ((i : Nat) : Int))]) (st' := [vR (some 78)]) (h1 := HS t m) 1 (by rfl) ?_
        refine ev_getR rfl rfl (rfl : rf 78 2 = some 79) ?_
        refine ev_go (pc' := 24) (ls' := [some (vR (some 78)), some (vI ((p : Nat) : Int)), some (vI ((i : Nat) : Int))]) (st' := [vI ((p : Nat) : Int), vR (some 79)]) (h1 := HS t m) 1 (by rfl) ?_
        refine ev_aald (k := p) rfl rfl rfl (by omega) ((rf_rows p hp).2.1 : rf 79 p = some (80 + p)) ?_
        refine ev_go (pc' := 27) (ls' := [some (vR (some 78)), some (vI ((p : Nat) : Int)), some (vI ((i : Nat) : Int))]) (st' := [vI 0, vI ((i : Nat) : Int), vR (some (80 + p))]) (h1 := HS t m) 2 (by rfl) ?_
        refine ev_iast (k := i) rfl (kd_rows p hp).2.1 rfl (by omega) ?_
        refine ev_go (pc' := 2) (ls' := [some (vR (some 78)), some (vI ((p : Nat) : Int)), some (vI ((i + 1 : Nat) : Int))]) (st' := []) (h1 := HS t (up m (80 + p) i 0)) 2 (by rfl) ?_
        exact hE2
      · rw [hP2 k hk, up_ne1 (b := 77) _ _ (by omega)]
        by_cases c0 : k = i
        · subst c0; rw [if_neg (by omega), up_eq, if_pos ⟨Nat.le_refl _, k1⟩]
        · rw [up_ne2 _ _ c0]
          by_cases c1 : i + 1 ≤ k ∧ ¬ (m 77 p = -1 ∨ m 77 p = (k : Int))
          · rw [if_pos c1, if_pos ⟨by omega, c1.2⟩]
          · rw [if_neg c1, if_neg]; intro h2; exact c1 ⟨by omega, h2.2⟩
set_option maxRecDepth 10000 in
theorem c_ruleOut {L : Nat} {xs : Nat → Int32} {t : Bool × Nat × Nat} {d p : Nat} {m : mMM} (hp : p < 5) (hI : inI (m 77 p) = true) : ∃ m', Ev (PP L xs) (d + 1) 24 0 (entL 3 [vR (some 78), vI (p : Int)]) [] (HS t m) (.inl none) (HS t m') ∧ (∀ k, k < 5 → m' (80 + p) k = if m 77 p = -1 ∨ m 77 p = (k : Int) then m (80 + p) k else 0) ∧ FRo m m' (80 + p) := by
  obtain ⟨m1, hE, hP, hF⟩ := l_ruleOut (L := L) (xs := xs) (t := t) (d := d) hp 5 0 m rfl hI
  refine ⟨m1, ?_, fun k hk => ?_, hF⟩
  · refine ev_go (pc' := 2) (ls' := [some (vR (some 78)), some (vI ((p : Nat) : Int)), some (vI 0)]) (st' := []) (h1 := HS t m) 2 (by rfl) ?_
    exact hE
  · rw [hP k hk]; by_cases c1 : ¬ (m 77 p = -1 ∨ m 77 p = (k : Int))
    · rw [if_pos ⟨Nat.zero_le _, c1⟩, if_neg c1]
    · rw [if_neg (fun h => c1 h.2), if_pos (Decidable.not_not.1 c1)]
