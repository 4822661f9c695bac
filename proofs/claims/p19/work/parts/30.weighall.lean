/-! ===== the lattice weighs its steps ===== -/
def mn7 (x : Int) : Int := if x + 1 < 7 then x + 1 else 7
def FRw (m m' : mMM) : Prop := ∀ b k, ¬ (86 ≤ b ∧ b ≤ 91) → m' b k = m b k
def SBD (m : mMM) : Prop := (∀ h, h < 5 → 0 ≤ m 5 h ∧ m 5 h ≤ 1000) ∧ ∀ g, g < 5 → ∀ h, h < 5 → 0 ≤ m (7 + g) h ∧ m (7 + g) h ≤ 1000
theorem SBD_fr {m m' : mMM} (h : FRw m m') (hs : SBD m) : SBD m' := ⟨fun k hk => by rw [h 5 k (by omega)]; exact hs.1 k hk, fun g hg k hk => by rw [h (7 + g) k (by omega)]; exact hs.2 g hg k hk⟩
def swF (m : mMM) (r h : Nat) : Int := if r = 0 then mn7 (m 5 h) else mn7 (m (7 + (r - 1)) h)
theorem swF_fr {m m' : mMM} (h : FRw m m') {r k : Nat} (hr : r < 6) : swF m' r k = swF m r k := by
  unfold swF; rw [h 5 k (by omega), h (7 + (r - 1)) k (by omega)]
set_option maxRecDepth 10000 in
theorem l_wa_in {L : Nat} {xs : Nat → Int32} {t : Bool × Nat × Nat} {d h : Nat} (hh : h < 5) : ∀ (c g : Nat) (m : mMM), g + c = 5 → SBD m → ∃ m', (∀ r, r < 6 → ∀ k, k < 5 → m' (86 + r) k = if k = h ∧ g + 1 ≤ r then swF m r h else m (86 + r) k) ∧ FRw m m' ∧ ∀ o h', Ev (PP L xs) (d + 2) 23 39 [some (vR (some 78)), some (vI (h : Int)), some (vI 5)] [] (HS t m') o h' → Ev (PP L xs) (d + 2) 23 9 [some (vR (some 78)), some (vI (h : Int)), some (vI (g : Int))] [] (HS t m) o h' := by
  intro c
  induction c with
  | zero =>
    intro g m hg hb
    refine ⟨m, fun r hr k hk => (if_neg (by omega)).symm, fun _ _ _ => rfl, fun o h' hE => ?_⟩
    have eg : g = 5 := by omega
    subst eg
    refine ev_go (pc' := 11) (ls' := [some (vR (some 78)), some (vI ((h : Nat) : Int)), some (vI ((5 : Nat) : Int))]) (st' := [vI 5, vI ((5 : Nat) : Int)]) (h1 := HS t m) 2 (by rfl) ?_
    refine ev_ic3 rfl (inI_of (by omega) (by omega)) rfl (fun c11 => ?_) (fun c11 => absurd c11 (by omega))
    exact hE
  | succ c IH =>
    intro g m hg hb
    have hb1 := hb.2 g (by omega) h hh
    have hF : FRw m (up m (86 + (g + 1)) h (if m (7 + g) h + 1 < 7 then m (7 + g) h + 1 else 7)) := fun b k hb => up_ne1 _ _ (by omega)
    obtain ⟨m2, hP2, hF2, hK⟩ := IH (g + 1) (up m (86 + (g + 1)) h (if m (7 + g) h + 1 < 7 then m (7 + g) h + 1 else 7)) (by omega) (SBD_fr hF hb)
    refine ⟨m2, fun r hr k hk => ?_, fun b k hb => (hF2 b k hb).trans (hF b k hb), fun o h' hE => ?_⟩
    · rw [hP2 r hr k hk, swF_fr hF hr]
      by_cases c0 : k = h ∧ r = g + 1
      · rw [c0.1, c0.2, if_neg (show ¬ (h = h ∧ g + 1 + 1 ≤ g + 1) by omega), up_eq, if_pos (show h = h ∧ g + 1 ≤ g + 1 from ⟨rfl, Nat.le_refl _⟩)]; unfold swF mn7; rw [if_neg (show ¬ g + 1 = 0 by omega)]; rfl
      · rw [up_ne _ _ (by omega)]
        by_cases c1 : k = h ∧ g + 1 + 1 ≤ r
        · rw [if_pos c1, if_pos ⟨c1.1, by omega⟩]
        · rw [if_neg c1, if_neg (by omega)]
    · refine ev_go (pc' := 11) (ls' := [some (vR (some 78)), some (vI ((h : Nat) : Int)), some (vI ((g : Nat) : Int))]) (st' := [vI 5, vI ((g : Nat) : Int)]) (h1 := HS t m) 2 (by rfl) ?_
      refine ev_ic3 rfl (inI_of (by omega) (by omega)) rfl (fun c11 => absurd c11 (by omega)) (fun c11 => ?_)
      refine ev_go (pc' := 15) (ls' := [some (vR (some 78)), some (vI ((h : Nat) : Int)), some (vI ((g : Nat) : Int))]) (st' := [vR (some 78)]) (h1 := HS t m) 1 (by rfl) ?_
      refine ev_getR rfl rfl (rfl : rf 78 3 = some 85) ?_
      refine ev_go (pc' := 21) (ls' := [some (vR (some 78)), some (vI ((h : Nat) : Int)), some (vI ((g : Nat) : Int))]) (st' := [vI ((g + 1 : Nat) : Int), vR (some 85)]) (h1 := HS t m) 3 (by rfl) ?_
      refine ev_aald (k := (g + 1)) rfl rfl rfl (by omega) ((rf_row6 (g + 1) (by omega)) : rf 85 (g + 1) = some (86 + (g + 1))) ?_
      refine ev_go (pc' := 24) (ls' := [some (vR (some 78)), some (vI ((h : Nat) : Int)), some (vI ((g : Nat) : Int))]) (st' := [vR (some 78), vI ((h : Nat) : Int), vR (some (86 + (g + 1)))]) (h1 := HS t m) 2 (by rfl) ?_
      refine ev_getR rfl rfl (rfl : rf 78 0 = some 3) ?_
      refine ev_go (pc' := 29) (ls' := [some (vR (some 78)), some (vI ((h : Nat) : Int)), some (vI ((g : Nat) : Int))]) (st' := [vI ((h : Nat) : Int), vI ((g : Nat) : Int), vR (some 3), vI ((h : Nat) : Int), vR (some (86 + (g + 1)))]) (h1 := HS t m) 2 (by rfl) ?_
      refine ev_call rfl rfl (Nat.le_of_ble_eq_true rfl) (c_stepW (by omega) hh hb1.1 hb1.2) ⟨Nat.le_refl _, Nat.le_refl _⟩ ?_
      show Ev (PP L xs) _ 23 32 [some (vR (some 78)), some (vI ((h : Nat) : Int)), some (vI ((g : Nat) : Int))] [vI (if m (7 + g) h + 1 < 7 then m (7 + g) h + 1 else 7), vI ((h : Nat) : Int), vR (some (86 + (g + 1)))] (HS t m) _ _
      refine ev_iast (k := h) rfl (kd_row6 (g + 1) (by omega)) rfl (by omega) ?_
      refine ev_go (pc' := 9) (ls' := [some (vR (some 78)), some (vI ((h : Nat) : Int)), some (vI ((g + 1 : Nat) : Int))]) (st' := []) (h1 := HS t (up m (86 + (g + 1)) h (if m (7 + g) h + 1 < 7 then m (7 + g) h + 1 else 7))) 2 (by rfl) ?_
      exact hK o h' hE
set_option maxRecDepth 10000 in
theorem l_wa_col {L : Nat} {xs : Nat → Int32} {t : Bool × Nat × Nat} {d h : Nat} {m : mMM} {q : Option mMV} (hh : h < 5) (hb : SBD m) : ∃ m', (∀ r, r < 6 → ∀ k, k < 5 → m' (86 + r) k = if k = h then swF m r h else m (86 + r) k) ∧ FRw m m' ∧ ∀ o h', Ev (PP L xs) (d + 2) 23 39 [some (vR (some 78)), some (vI (h : Int)), some (vI 5)] [] (HS t m') o h' → Ev (PP L xs) (d + 2) 23 7 [some (vR (some 78)), some (vI (h : Int)), q] [] (HS t m) o h' := by
  have hF : FRw m (up m 86 h (if m 5 h + 1 < 7 then m 5 h + 1 else 7)) := fun b k hb => up_ne1 _ _ (by omega)
  have hb1 := hb.1 h hh
  obtain ⟨m2, hP2, hF2, hK⟩ := l_wa_in (L := L) (xs := xs) (t := t) (d := d) hh 5 0 (up m 86 h (if m 5 h + 1 < 7 then m 5 h + 1 else 7)) rfl (SBD_fr hF hb)
  refine ⟨m2, fun r hr k hk => ?_, fun b k hb => (hF2 b k hb).trans (hF b k hb), fun o h' hE => ?_⟩
  · rw [hP2 r hr k hk, swF_fr hF hr]
    by_cases c0 : k = h ∧ r = 0
    · rw [c0.1, c0.2, if_neg (by omega), if_pos rfl, up_eq]; rfl
    · rw [up_ne _ _ (by omega)]
      by_cases c1 : k = h
      · rw [if_pos ⟨c1, by omega⟩, if_pos c1]
      · rw [if_neg (fun h => c1 h.1), if_neg c1]
  · refine ev_go (pc' := 11) (ls' := [some (vR (some 78)), some (vI ((h : Nat) : Int)), some (vI (-1))]) (st' := [vI 5, vI (-1)]) (h1 := HS t m) 4 (by rfl) ?_
    refine ev_ic3 rfl rfl rfl (fun c11 => absurd c11 (by decide)) (fun c11 => ?_)
    refine ev_go (pc' := 15) (ls' := [some (vR (some 78)), some (vI ((h : Nat) : Int)), some (vI (-1))]) (st' := [vR (some 78)]) (h1 := HS t m) 1 (by rfl) ?_
    refine ev_getR rfl rfl (rfl : rf 78 3 = some 85) ?_
    refine ev_go (pc' := 21) (ls' := [some (vR (some 78)), some (vI ((h : Nat) : Int)), some (vI (-1))]) (st' := [vI 0, vR (some 85)]) (h1 := HS t m) 3 (by rfl) ?_
    refine ev_aald (k := 0) rfl rfl rfl (by omega) (rfl : rf 85 0 = some 86) ?_
    refine ev_go (pc' := 24) (ls' := [some (vR (some 78)), some (vI ((h : Nat) : Int)), some (vI (-1))]) (st' := [vR (some 78), vI ((h : Nat) : Int), vR (some 86)]) (h1 := HS t m) 2 (by rfl) ?_
    refine ev_getR rfl rfl (rfl : rf 78 0 = some 3) ?_
    refine ev_go (pc' := 29) (ls' := [some (vR (some 78)), some (vI ((h : Nat) : Int)), some (vI (-1))]) (st' := [vI ((h : Nat) : Int), vI (-1), vR (some 3), vI ((h : Nat) : Int), vR (some 86)]) (h1 := HS t m) 2 (by rfl) ?_
    refine ev_call rfl rfl (Nat.le_of_ble_eq_true rfl) (c_stepF hh hb1.1 hb1.2) ⟨Nat.le_refl _, Nat.le_refl _⟩ ?_
    show Ev (PP L xs) _ 23 32 [some (vR (some 78)), some (vI ((h : Nat) : Int)), some (vI (-1))] [vI (if m 5 h + 1 < 7 then m 5 h + 1 else 7), vI ((h : Nat) : Int), vR (some 86)] (HS t m) _ _
    refine ev_iast (k := h) rfl rfl rfl (by omega) ?_
    refine ev_go (pc' := 9) (ls' := [some (vR (some 78)), some (vI (h : Int)), some (vI 0)]) (st' := []) (h1 := HS t (up m 86 h (if m 5 h + 1 < 7 then m 5 h + 1 else 7))) 2 (by rfl) ?_
    exact hK o h' hE
set_option maxRecDepth 10000 in
theorem l_wa_all {L : Nat} {xs : Nat → Int32} {t : Bool × Nat × Nat} {d : Nat} : ∀ (c h : Nat) (m : mMM) (q : Option mMV), h + c = 5 → SBD m → ∃ m' q', (∀ r, r < 6 → ∀ k, k < 5 → m' (86 + r) k = if h ≤ k then swF m r k else m (86 + r) k) ∧ FRw m m' ∧ ∀ o h', Ev (PP L xs) (d + 2) 23 45 [some (vR (some 78)), some (vI 5), q'] [] (HS t m') o h' → Ev (PP L xs) (d + 2) 23 2 [some (vR (some 78)), some (vI (h : Int)), q] [] (HS t m) o h' := by
  intro c
  induction c with
  | zero =>
    intro h m q hh hb
    refine ⟨m, q, fun r hr k hk => (if_neg (by omega)).symm, fun _ _ _ => rfl, fun o h' hE => ?_⟩
    have eg : h = 5 := by omega
    subst eg
    refine ev_go (pc' := 4) (ls' := [some (vR (some 78)), some (vI ((5 : Nat) : Int)), q]) (st' := [vI 5, vI ((5 : Nat) : Int)]) (h1 := HS t m) 2 (by rfl) ?_
    refine ev_ic3 rfl (inI_of (by omega) (by omega)) rfl (fun c4 => ?_) (fun c4 => absurd c4 (by omega))
    exact hE
  | succ c IH =>
    intro h m q hh hb
    obtain ⟨m1, hP1, hF1, hK1⟩ := l_wa_col (L := L) (xs := xs) (t := t) (d := d) (q := q) (by omega : h < 5) hb
    obtain ⟨m2, q2, hP2, hF2, hK2⟩ := IH (h + 1) m1 (some (vI 5)) (by omega) (SBD_fr hF1 hb)
    refine ⟨m2, q2, fun r hr k hk => ?_, fun b k hb => (hF2 b k hb).trans (hF1 b k hb), fun o h' hE => ?_⟩
    · rw [hP2 r hr k hk, swF_fr hF1 hr, hP1 r hr k hk]
      by_cases c0 : k = h
      · rw [c0, if_neg (by omega), if_pos rfl, if_pos (Nat.le_refl _)]
      · rw [if_neg c0]; by_cases c1 : h + 1 ≤ k
        · rw [if_pos c1, if_pos (by omega)]
        · rw [if_neg c1, if_neg (by omega)]
    · refine ev_go (pc' := 4) (ls' := [some (vR (some 78)), some (vI ((h : Nat) : Int)), q]) (st' := [vI 5, vI ((h : Nat) : Int)]) (h1 := HS t m) 2 (by rfl) ?_
      refine ev_ic3 rfl (inI_of (by omega) (by omega)) rfl (fun c4 => absurd c4 (by omega)) (fun c4 => ?_)
      refine hK1 o h' ?_
      refine ev_go (pc' := 2) (ls' := [some (vR (some 78)), some (vI ((h + 1 : Nat) : Int)), some (vI 5)]) (st' := []) (h1 := HS t m1) 2 (by rfl) ?_
      exact hK2 o h' hE
