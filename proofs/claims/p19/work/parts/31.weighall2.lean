/-! ===== the lattice weighs the words of the sentence ===== -/
def foW (C : List Tx) (w : Int) : Int × (Nat → Int) := C.foldl (cntC w) (0, fun _ => 0)
def LW (m : mMM) (C : List Tx) (i k : Nat) : Int := if m 77 i = -1 ∨ m 77 i = (k : Int) then wF (facF (foW C (m 76 i)).1) ((foW C (m 76 i)).2 k) else 0
def FRl (m m' : mMM) : Prop := ∀ b k, ¬ (80 ≤ b ∧ b ≤ 84) → m' b k = m b k
theorem LW_fr {m m' : mMM} (h : FRl m m') (C : List Tx) (i k : Nat) : LW m' C i k = LW m C i k := by
  unfold LW; rw [h 77 i (by omega), h 76 i (by omega)]
def SEN (m : mMM) (n : Nat) : Prop := m 75 2 = (n : Int) ∧ n ≤ 5 ∧ ∀ i, i < n → 0 ≤ m 76 i ∧ m 76 i < 2147483648 ∧ inI (m 77 i) = true
theorem SEN_fr {m m' : mMM} {n : Nat} (h : FRl m m') (hs : SEN m n) : SEN m' n := ⟨by rw [h 75 2 (by omega)]; exact hs.1, hs.2.1, fun i hi => by rw [h 76 i (by omega), h 77 i (by omega)]; exact hs.2.2 i hi⟩
theorem CR_frl {m m1 : mMM} {C : List Tx} (h : FRl m m1) (hc : CR m C) : CR m1 C :=
  ⟨by rw [h 3 3 (by omega)]; exact hc.1, hc.2.1, fun i hi => by
    have h20 := hc.2.1
    have e : tx i = 12 + 3 * i := rfl
    have ht := (hc.2.2 i hi).1
    refine ⟨⟨by rw [h (tx i) 2 (by omega)]; exact ht.1, ht.2.1, fun k hk => ⟨by rw [h (tx i + 1) k (by omega)]; exact (ht.2.2 k hk).1, by rw [h (tx i + 2) k (by omega)]; exact (ht.2.2 k hk).2⟩⟩, ?_⟩
    rw [h (tx i) 3 (by omega)]; exact (hc.2.2 i hi).2⟩
set_option maxRecDepth 10000 in
theorem l_wa_words {L : Nat} {xs : Nat → Int32} {t : Bool × Nat × Nat} {d n : Nat} {C : List Tx} {q : Option mMV} (hW : ∀ i, i < C.length → WT (gc C i).1) (hB : ∀ w k, k < 5 → 0 ≤ (foW C w).2 k ∧ (foW C w).2 k ≤ 1000) : ∀ (c p : Nat) (m : mMM), p + c = n → CR m C → SEN m n → ∃ m', Ev (PP L xs) (d + 3) 23 47 [some (vR (some 78)), some (vI (p : Int)), q] [] (HS t m) (.inl none) (HS t m') ∧ (∀ i, i < 5 → ∀ k, k < 5 → m' (80 + i) k = if p ≤ i ∧ i < n then LW m C i k else m (80 + i) k) ∧ FRl m m' := by
  intro c
  induction c with
  | zero =>
    intro p m hp hc hs
    have hn5 := hs.2.1
    refine ⟨m, ?_, fun i hi k hk => (if_neg (by omega)).symm, fun _ _ _ => rfl⟩
    refine ev_go (pc' := 49) (ls' := [some (vR (some 78)), some (vI ((p : Nat) : Int)), q]) (st' := [vR (some 78), vI ((p : Nat) : Int)]) (h1 := HS t m) 2 (by rfl) ?_
    refine ev_getR rfl rfl (rfl : rf 78 1 = some 75) ?_
    have hsz := c_se_size (L := L) (xs := xs) (d := d + 2) (t := t) (m := m)
    rw [hs.1] at hsz
    refine ev_call rfl rfl (Nat.le_of_ble_eq_true rfl) hsz ⟨Nat.le_refl _, Nat.le_refl _⟩ ?_
    show Ev (PP L xs) _ 23 55 [some (vR (some 78)), some (vI ((p : Nat) : Int)), q] [vI ((n : Nat) : Int), vI ((p : Nat) : Int)] (HS t m) _ _
    refine ev_ic3 rfl (inI_of (by omega) (by omega)) (inI_of (by omega) (by omega)) (fun c55 => ?_) (fun c55 => absurd c55 (by omega))
    exact ev_retE rfl rfl (by first | rfl | (simp [*]; done) | (split <;> first | rfl | (exfalso; omega))) (by first | rfl | (simp [*]; done) | (split <;> first | rfl | (exfalso; omega)))
  | succ c IH =>
    intro p m hp hc hs
    have hn5 := hs.2.1
    have hsp := hs.2.2 p (by omega)
    have hp5 : p < 5 := by omega
    obtain ⟨m1, hE1, hR1, hF1⟩ := c_weigh (L := L) (xs := xs) (t := t) (d := d) (kd_rows p hp5).2.1 (by omega) hW hsp.1 hsp.2.1 hc (hB (m 76 p))
    obtain ⟨m2, hE2, hP2, hF2⟩ := c_ruleOut (L := L) (xs := xs) (t := t) (d := d + 1) (m := m1) hp5 (by rw [hF1 77 p (by omega)]; exact hsp.2.2)
    have hF : FRl m m2 := fun b k hb => (hF2 b k (by omega)).trans (hF1 b k (by omega))
    obtain ⟨m3, hE3, hP3, hF3⟩ := IH (p + 1) m2 (by omega) (CR_frl hF hc) (SEN_fr hF hs)
    refine ⟨m3, ?_, fun i hi k hk => ?_, fun b k hb => (hF3 b k hb).trans (hF b k hb)⟩
    · refine ev_go (pc' := 49) (ls' := [some (vR (some 78)), some (vI ((p : Nat) : Int)), q]) (st' := [vR (some 78), vI ((p : Nat) : Int)]) (h1 := HS t m) 2 (by rfl) ?_
      refine ev_getR rfl rfl (rfl : rf 78 1 = some 75) ?_
      have hsz := c_se_size (L := L) (xs := xs) (d := d + 2) (t := t) (m := m)
      rw [hs.1] at hsz
      refine ev_call rfl rfl (Nat.le_of_ble_eq_true rfl) hsz ⟨Nat.le_refl _, Nat.le_refl _⟩ ?_
      show Ev (PP L xs) _ 23 55 [some (vR (some 78)), some (vI ((p : Nat) : Int)), q] [vI ((n : Nat) : Int), vI ((p : Nat) : Int)] (HS t m) _ _
      refine ev_ic3 rfl (inI_of (by omega) (by omega)) (inI_of (by omega) (by omega)) (fun c55 => absurd c55 (by omega)) (fun c55 => ?_)
      refine ev_go (pc' := 59) (ls' := [some (vR (some 78)), some (vI ((p : Nat) : Int)), q]) (st' := [vR (some 78)]) (h1 := HS t m) 1 (by rfl) ?_
      refine ev_getR rfl rfl (rfl : rf 78 0 = some 3) ?_
      refine ev_go (pc' := 63) (ls' := [some (vR (some 78)), some (vI ((p : Nat) : Int)), q]) (st' := [vR (some 78), vR (some 3)]) (h1 := HS t m) 1 (by rfl) ?_
      refine ev_getR rfl rfl (rfl : rf 78 1 = some 75) ?_
      refine ev_go (pc' := 67) (ls' := [some (vR (some 78)), some (vI ((p : Nat) : Int)), q]) (st' := [vI ((p : Nat) : Int), vR (some 75), vR (some 3)]) (h1 := HS t m) 1 (by rfl) ?_
      refine ev_call rfl rfl (Nat.le_of_ble_eq_true rfl) (c_se_wordAt hp5) ⟨Nat.le_refl _, Nat.le_refl _⟩ ?_
      show Ev (PP L xs) _ 23 70 [some (vR (some 78)), some (vI ((p : Nat) : Int)), q] [vI (m 76 p), vR (some 3)] (HS t m) _ _
      refine ev_go (pc' := 71) (ls' := [some (vR (some 78)), some (vI ((p : Nat) : Int)), q]) (st' := [vR (some 78), vI (m 76 p), vR (some 3)]) (h1 := HS t m) 1 (by rfl) ?_
      refine ev_getR rfl rfl (rfl : rf 78 2 = some 79) ?_
      refine ev_go (pc' := 75) (ls' := [some (vR (some 78)), some (vI ((p : Nat) : Int)), q]) (st' := [vI ((p : Nat) : Int), vR (some 79), vI (m 76 p), vR (some 3)]) (h1 := HS t m) 1 (by rfl) ?_
      refine ev_aald (k := p) rfl rfl rfl (by omega) ((rf_rows p hp5).2.1 : rf 79 p = some (80 + p)) ?_
      refine ev_call rfl rfl (Nat.le_of_ble_eq_true rfl) hE1 ⟨Nat.le_refl _, Nat.le_refl _⟩ ?_
      show Ev (PP L xs) _ 23 79 [some (vR (some 78)), some (vI ((p : Nat) : Int)), q] [] (HS t m1) _ _
      refine ev_go (pc' := 81) (ls' := [some (vR (some 78)), some (vI ((p : Nat) : Int)), q]) (st' := [vI ((p : Nat) : Int), vR (some 78)]) (h1 := HS t m1) 2 (by rfl) ?_
      refine ev_call rfl rfl (Nat.le_of_ble_eq_true rfl) hE2 ⟨Nat.le_refl _, Nat.le_refl _⟩ ?_
      show Ev (PP L xs) _ 23 84 [some (vR (some 78)), some (vI ((p : Nat) : Int)), q] [] (HS t m2) _ _
      refine ev_go (pc' := 47) (ls' := [some (vR (some 78)), some (vI ((p + 1 : Nat) : Int)), q]) (st' := []) (h1 := HS t m2) 2 (by rfl) ?_
      exact hE3
    · rw [hP3 i hi k hk, LW_fr hF]
      by_cases c0 : i = p
      · subst c0
        rw [if_neg (by omega), if_pos ⟨Nat.le_refl _, by omega⟩, hP2 k hk, hF1 77 i (by omega)]
        unfold LW
        by_cases c1 : m 77 i = -1 ∨ m 77 i = (k : Int)
        · rw [if_pos c1, if_pos c1]; exact hR1 k hk
        · rw [if_neg c1, if_neg c1]
      · by_cases c1 : p + 1 ≤ i ∧ i < n
        · rw [if_pos c1, if_pos (by omega)]
        · rw [if_neg c1, if_neg (by omega), hF2 (80 + i) k (by omega), hF1 (80 + i) k (by omega)]
set_option maxRecDepth 10000 in
theorem c_weighAll {L : Nat} {xs : Nat → Int32} {t : Bool × Nat × Nat} {d n : Nat} {m : mMM} {C : List Tx} (hW : ∀ i, i < C.length → WT (gc C i).1) (hB : ∀ w k, k < 5 → 0 ≤ (foW C w).2 k ∧ (foW C w).2 k ≤ 1000) (hc : CR m C) (hs : SEN m n) (hb : SBD m) : ∃ m', Ev (PP L xs) (d + 3) 23 0 (entL 3 [vR (some 78)]) [] (HS t m) (.inl none) (HS t m') ∧ (∀ i, i < 5 → ∀ k, k < 5 → m' (80 + i) k = if i < n then LW m C i k else m (80 + i) k) ∧ (∀ r, r < 6 → ∀ k, k < 5 → m' (86 + r) k = swF m r k) ∧ (∀ b k, ¬ (80 ≤ b ∧ b ≤ 84) → ¬ (86 ≤ b ∧ b ≤ 91) → m' b k = m b k) := by
  obtain ⟨m1, q1, hP1, hF1, hK1⟩ := l_wa_all (L := L) (xs := xs) (t := t) (d := d + 1) 5 0 m none rfl hb
  have hcr : CR m1 C := ⟨by rw [hF1 3 3 (by omega)]; exact hc.1, hc.2.1, fun i hi => by
    have h20 := hc.2.1
    have e : tx i = 12 + 3 * i := rfl
    have ht := (hc.2.2 i hi).1
    refine ⟨⟨by rw [hF1 (tx i) 2 (by omega)]; exact ht.1, ht.2.1, fun k hk => ⟨by rw [hF1 (tx i + 1) k (by omega)]; exact (ht.2.2 k hk).1, by rw [hF1 (tx i + 2) k (by omega)]; exact (ht.2.2 k hk).2⟩⟩, ?_⟩
    rw [hF1 (tx i) 3 (by omega)]; exact (hc.2.2 i hi).2⟩
  have hse : SEN m1 n := ⟨by rw [hF1 75 2 (by omega)]; exact hs.1, hs.2.1, fun i hi => by rw [hF1 76 i (by omega), hF1 77 i (by omega)]; exact hs.2.2 i hi⟩
  obtain ⟨m2, hE2, hP2, hF2⟩ := l_wa_words (L := L) (xs := xs) (t := t) (d := d) (q := q1) hW hB n 0 m1 (by omega) hcr hse
  refine ⟨m2, ?_, fun i hi k hk => ?_, fun r hr k hk => ?_, fun b k h1 h2 => (hF2 b k h1).trans (hF1 b k h2)⟩
  · refine ev_go (pc' := 2) (ls' := [some (vR (some 78)), some (vI 0), none]) (st' := []) (h1 := HS t m) 2 (by rfl) ?_
    refine hK1 _ _ ?_
    refine ev_go (pc' := 47) (ls' := [some (vR (some 78)), some (vI 0), q1]) (st' := []) (h1 := HS t m1) 2 (by rfl) ?_
    exact hE2
  · rw [hP2 i hi k hk, hF1 (80 + i) k (by omega)]
    by_cases c1 : i < n
    · rw [if_pos ⟨Nat.zero_le _, c1⟩, if_pos c1]; unfold LW; rw [hF1 77 i (by omega), hF1 76 i (by omega)]
    · rw [if_neg (fun h => c1 h.2), if_neg c1]
  · rw [hF2 (86 + r) k (by omega), hP1 r hr k hk, if_pos (Nat.zero_le _)]
