/-! ===== the model's calls: weight, step, path, pathAnew, product, cost, share, shareAnew, texts ===== -/
def MSR (m : mMM) (S : List (Int × Int)) : Prop := m 190 13 = (S.length : Int) ∧ S.length ≤ 5 ∧ ∀ i, i < S.length → m 197 i = cv (gs S i).1 ∧ m 198 i = (gs S i).2
def WS (S : List (Int × Int)) : Prop := ∀ x, x ∈ S → VWd x.1
def FRg (m m' : mMM) : Prop := ∀ b k, (b ≠ 190 ∨ (k ≠ 19 ∧ k ≠ 20 ∧ k ≠ 21)) → (b < 199 ∨ 203 < b) → m' b k = m b k
def LSM (C : List Tx) (S : List (Int × Int)) : List Pr := ((List.range (5 ^ S.length)).map (fun x => (wt (sA0 C S) (sAA C S) S.length x, (x : Int)))).foldl oL []
theorem LSM_mem {C : List Tx} {S : List (Int × Int)} {x : Pr} (h : x ∈ LSM C S) : ∃ q : Nat, q < 5 ^ S.length ∧ x = (wt (sA0 C S) (sAA C S) S.length q, (q : Int)) := by
  unfold LSM at h
  rcases oLs_mem h with h | h
  · exact absurd h List.not_mem_nil
  · obtain ⟨q, hq, rfl⟩ := List.mem_map.mp h
    exact ⟨q, List.mem_range.mp hq, rfl⟩
theorem HA_of {m m' : mMM} {C : List Tx} {S : List (Int × Int)} (hC : VC C) (hW : WC C) (hS : VS S) (hWS : WS S) (hs : MSR m S) (h199 : ∀ j, j < 5 * S.length → m' 199 j = wfF C (cv (gs S (j / 5)).1) ((j % 5 : Nat) : Int)) (h200 : ∀ j, j < 25 → m' 200 j = woF C ((j / 5 : Nat) : Int) ((j % 5 : Nat) : Int)) (h201 : ∀ j, j < 5 → m' 201 j = woF C (-1) (j : Int)) (hF : FRy m m') : HA m' (sA0 C S) (sAA C S) S.length := by
  have e8 : ∀ i, i < S.length → m' 198 i = (gs S i).2 := fun i hi => by rw [hF 198 i (by decide) (by decide) (by decide)]; exact (hs.2.2 i hi).2
  have e9 : ∀ i, i < S.length → ∀ g, g < 5 → m' 199 (5 * i + g) = wF (facF (foW C (gs S i).1).1) ((foW C (gs S i).1).2 g) := fun i hi g hg => by
    rw [h199 _ (by omega), show (5 * i + g) / 5 = i by omega, show (5 * i + g) % 5 = g by omega]
    exact weight_eq hW (hWS _ (gs_mem hi))
  refine ⟨fun i hi => ?_, fun h0 g hg => ?_, fun p hp hpn f hf g hg => ?_⟩
  · rw [e8 i hi]; have h := hS _ (gs_mem hi); exact inI_of (by omega) (by omega)
  · rw [e8 0 h0, e9 0 h0 g hg, h201 g hg, wo_first hC g]
    unfold sA0 lwF
    rw [if_pos hg]
    by_cases c : (gs S 0).2 = -1 ∨ (gs S 0).2 = (g : Int)
    · rw [if_pos c, if_pos c, Int.mul_comm]
    · rw [if_neg c, if_neg c, Int.mul_zero]
  · rw [e8 p hpn, e9 p hpn g hg, h200 _ (by omega), show (5 * f + g) / 5 = f by omega, show (5 * f + g) % 5 = g by omega, wo_pair hC f g]
    unfold sAA lwF
    rw [if_pos ⟨hf, hg⟩]
    by_cases c : (gs S p).2 = -1 ∨ (gs S p).2 = (g : Int)
    · rw [if_pos c, if_pos c, Int.mul_comm]
    · rw [if_neg c, if_neg c, Int.mul_zero]
set_option maxRecDepth 10000 in
theorem m_goes {L : Nat} {xs : Nat → Int32} {t : Bool × Nat × Nat} {d P G : Nat} {m : mMM} {C : List Tx} {S : List (Int × Int)} (hC : VC C) (hW : WC C) (hS : VS S) (hWS : WS S) (hM : MCR m C) (hs : MSR m S) (hP : P < S.length) (hG : G < 5) : ∃ m', Ev (PP L xs) (d + 3) 113 0 (entL 8 [vR (some 190), vI (P : Int), vI (G : Int)]) [] (HS t m) (.inl none) (HS t m') ∧ RKM m' (LSM C S) ∧ m' 190 20 = TOT C S ∧ m' 190 21 = PS (sA0 C S) (sAA C S) S.length (S.length - 1 - P) G ∧ FRg m m' := by
  have h5n := hs.2.1
  obtain ⟨m1, hE1, h199, h200, h201, hF1⟩ := m_lays (L := L) (xs := xs) (t := t) (d := d) (n := S.length) (V := fun i => cv (gs S i).1) h5n (fun i _ => cv_bd _) (fun x hx z hz => (hW x hx z hz).2) hM hs.1 (fun i hi => (hs.2.2 i hi).1)
  have hA := HA_of hC hW hS hWS hs h199 h200 h201 hF1
  have hF2 : ∀ b k, (b ≠ 190 ∨ (k ≠ 19 ∧ k ≠ 20 ∧ k ≠ 21)) → (up (up (up m1 190 19 0) 190 20 0) 190 21 0) b k = m1 b k := fun b k h => by rw [up_ne _ _ (by omega), up_ne _ _ (by omega), up_ne _ _ (by omega)]
  obtain ⟨m2, hE2, hR2, h20, h21, hF3⟩ := ml_goes (L := L) (xs := xs) (t := t) (d := d) (P := P) (G := G) (n := S.length) (AB_s hC S) h5n hP hG (5 ^ S.length) 0 [] (up (up (up m1 190 19 0) 190 20 0) 190 21 0) none none none none (by omega) (by rw [hF2 190 13 (by omega), hF1 190 13 (by decide) (by decide) (by decide)]; exact hs.1) (HA_fr (fun b k h1 h2 => hF2 b k (by omega)) hA) ⟨by rw [up_ne2 _ _ (by decide), up_ne2 _ _ (by decide), up_eq]; rfl, Nat.zero_le _, fun k hk => absurd hk (Nat.not_lt_zero k)⟩ List.Pairwise.nil (fun x hx => absurd hx List.not_mem_nil) (by rw [up_ne2 _ _ (by decide), up_eq]; rfl) (by rw [up_eq]; rfl)
  rw [← List.range_eq_range'] at hR2
  refine ⟨m2, ?_, hR2, h20, h21, fun b k h1 h2 => (hF3 b k h1 (by omega) (by omega)).trans ((hF2 b k h1).trans (hF1 b k (by omega) (by omega) (by omega)))⟩
  refine ev_go (pc' := 1) (ls' := [some (vR (some 190)), some (vI ((P : Nat) : Int)), some (vI ((G : Nat) : Int)), none, none, none, none, none]) (st' := [vR (some 190)]) (h1 := HS t m) 1 (by rfl) ?_
  refine ev_call rfl rfl (Nat.le_of_ble_eq_true rfl) hE1 ⟨Nat.le_refl _, Nat.le_refl _⟩ ?_
  show Ev (PP L xs) _ 113 4 [some (vR (some 190)), some (vI ((P : Nat) : Int)), some (vI ((G : Nat) : Int)), none, none, none, none, none] [] (HS t m1) _ _
  refine ev_go (pc' := 6) (ls' := [some (vR (some 190)), some (vI ((P : Nat) : Int)), some (vI ((G : Nat) : Int)), none, none, none, none, none]) (st' := [vI 0, vR (some 190)]) (h1 := HS t m1) 2 (by rfl) ?_
  refine ev_putI rfl rfl ?_
  refine ev_go (pc' := 11) (ls' := [some (vR (some 190)), some (vI ((P : Nat) : Int)), some (vI ((G : Nat) : Int)), none, none, none, none, none]) (st' := [vJ 0, vR (some 190)]) (h1 := HS t (up m1 190 19 0)) 2 (by rfl) ?_
  refine ev_putJ rfl rfl ?_
  refine ev_go (pc' := 16) (ls' := [some (vR (some 190)), some (vI ((P : Nat) : Int)), some (vI ((G : Nat) : Int)), none, none, none, none, none]) (st' := [vJ 0, vR (some 190)]) (h1 := HS t (up (up m1 190 19 0) 190 20 0)) 2 (by rfl) ?_
  refine ev_putJ rfl rfl ?_
  refine ev_go (pc' := 21) (ls' := [some (vR (some 190)), some (vI ((P : Nat) : Int)), some (vI ((G : Nat) : Int)), some (vI 0), none, none, none, none]) (st' := []) (h1 := HS t (up (up (up m1 190 19 0) 190 20 0) 190 21 0)) 2 (by rfl) ?_
  exact hE2
theorem MCR_frg {m m' : mMM} {C : List Tx} (h : FRg m m') (hM : MCR m C) : MCR m' C := MCR_any (fun b k hb hk => h b k (by omega) (by omega)) hM
theorem MSR_frg {m m' : mMM} {S : List (Int × Int)} (h : FRg m m') (hs : MSR m S) : MSR m' S :=
  ⟨by rw [h 190 13 (by omega) (by omega)]; exact hs.1, hs.2.1, fun i hi => by rw [h 197 i (by omega) (by omega), h 198 i (by omega) (by omega)]; exact hs.2.2 i hi⟩
theorem MCR_up0 {m : mMM} {C : List Tx} (v : Int) (hM : MCR m C) : MCR (up m 190 0 v) C := MCR_any (fun b k hb hk => up_ne _ _ (by omega)) hM
theorem MSR_up0 {m : mMM} {S : List (Int × Int)} (v : Int) (hs : MSR m S) : MSR (up m 190 0 v) S :=
  ⟨by rw [up_ne2 _ _ (by decide)]; exact hs.1, hs.2.1, fun i hi => by rw [up_ne1 _ _ (by decide), up_ne1 _ _ (by decide)]; exact hs.2.2 i hi⟩
def spPathM (C : List Tx) (S : List (Int × Int)) (k p : Nat) : Int := if k < (LSM C S).length then (((gl (LSM C S) k).2.toNat / 5 ^ (S.length - 1 - p) % 5 : Nat) : Int) else -1
def spProdM (C : List Tx) (S : List (Int × Int)) (k : Nat) : Int := if k < (LSM C S).length then (gl (LSM C S) k).1 else 0
set_option maxRecDepth 10000 in
theorem m_onPath {L : Nat} {xs : Nat → Int32} {t : Bool × Nat × Nat} {m : mMM} {C : List Tx} {S : List (Int × Int)} {k p : Nat} (hC : VC C) (hW : WC C) (hS : VS S) (hWS : WS S) (hM : MCR m C) (hs : MSR m S) (hk : k < 10) (hp : p < S.length) : ∃ m', Ev (PP L xs) 9 117 0 (entL 3 [vR (some 190), vI (k : Int), vI (p : Int)]) [] (HS t m) (.inl (some (vI (spPathM C S k p)))) (HS t m') ∧ m' 190 0 = 0 ∧ ∀ b k', (b ≠ 190 ∨ (k' ≠ 0 ∧ k' ≠ 19 ∧ k' ≠ 20 ∧ k' ≠ 21)) → (b < 199 ∨ 203 < b) → m' b k' = m b k' := by
  have h5n := hs.2.1
  have hl10 : (LSM C S).length ≤ 10 := (Gd_foldl _ _ Gd_nil).2.1
  obtain ⟨m1, hE1, hR1, h20, h21, hF1⟩ := m_goes (L := L) (xs := xs) (t := t) (d := 5) (P := 0) (G := 0) hC hW hS hWS (MCR_up0 0 hM) (MSR_up0 0 hs) (by omega) (by decide)
  have h190 : m1 190 0 = 0 := by rw [hF1 190 0 (by omega) (by omega), up_eq]
  refine ⟨m1, ?_, h190, fun b k' h1 h2 => (hF1 b k' (by omega) h2).trans (up_ne _ _ (by omega))⟩
  by_cases c0 : k < (LSM C S).length
  · obtain ⟨r, hr, er⟩ := LSM_mem (gl_mem c0)
    have hp5 := p5 S.length h5n
    have e2 : (gl (LSM C S) k).2 = (r : Int) := by rw [er]
    have hv : m1 203 k = (r : Int) := by rw [(hR1.2.2 k c0).2, e2]
    have e3 : spPathM C S k p = ((r / 5 ^ (S.length - 1 - p) % 5 : Nat) : Int) := by unfold spPathM; rw [if_pos c0, e2]; rfl
    rw [e3]
    have htg := m_tagAt (L := L) (xs := xs) (t := t) (d := 8) (m := m1) (n := S.length) (p := p) (r := r) (by omega) (by rw [hF1 190 13 (by omega) (by omega), up_ne2 _ _ (by decide)]; exact hs.1) h5n hp
    refine ev_go (pc' := 2) (ls' := [some (vR (some 190)), some (vI ((k : Nat) : Int)), some (vI ((p : Nat) : Int))]) (st' := [vI ((k : Nat) : Int), vR (some 190)]) (h1 := HS t m) 2 (by rfl) ?_
    refine ev_call rfl rfl (Nat.le_of_ble_eq_true rfl) (m_isRank1 hk) ⟨Nat.le_refl _, Nat.le_refl _⟩ ?_
    show Ev (PP L xs) _ 117 5 [some (vR (some 190)), some (vI ((k : Nat) : Int)), some (vI ((p : Nat) : Int))] [vI 1, vR (some 190)] (HS t m) _ _
    refine ev_if0 rfl rfl (fun c5 => absurd c5 (by decide)) (fun c5 => ?_)
    refine ev_go (pc' := 10) (ls' := [some (vR (some 190)), some (vI ((k : Nat) : Int)), some (vI ((p : Nat) : Int))]) (st' := [vI ((p : Nat) : Int), vR (some 190), vR (some 190)]) (h1 := HS t m) 2 (by rfl) ?_
    refine ev_call rfl rfl (Nat.le_of_ble_eq_true rfl) (m_isPlace1 hs.1 hs.2.1 hp) ⟨Nat.le_refl _, Nat.le_refl _⟩ ?_
    show Ev (PP L xs) _ 117 13 [some (vR (some 190)), some (vI ((k : Nat) : Int)), some (vI ((p : Nat) : Int))] [vI 1, vR (some 190)] (HS t m) _ _
    refine ev_if0 rfl rfl (fun c13 => absurd c13 (by decide)) (fun c13 => ?_)
    refine ev_go (pc' := 21) (ls' := [some (vR (some 190)), some (vI ((k : Nat) : Int)), some (vI ((p : Nat) : Int))]) (st' := [vI 0, vR (some 190)]) (h1 := HS t m) 2 (by rfl) ?_
    refine ev_call rfl rfl (Nat.le_of_ble_eq_true rfl) (m_holds (x := 0) rfl) ⟨Nat.le_refl _, Nat.le_refl _⟩ ?_
    show Ev (PP L xs) _ 117 24 [some (vR (some 190)), some (vI ((k : Nat) : Int)), some (vI ((p : Nat) : Int))] [vI 1] (HS t (up m 190 0 0)) _ _
    refine ev_if1 rfl rfl (fun c24 => ?_) (fun c24 => absurd c24 (by decide))
    refine ev_go (pc' := 32) (ls' := [some (vR (some 190)), some (vI ((k : Nat) : Int)), some (vI ((p : Nat) : Int))]) (st' := [vI 0, vI 0, vR (some 190)]) (h1 := HS t (up m 190 0 0)) 3 (by rfl) ?_
    refine ev_call rfl rfl (Nat.le_of_ble_eq_true rfl) hE1 ⟨Nat.le_refl _, Nat.le_refl _⟩ ?_
    show Ev (PP L xs) _ 117 35 [some (vR (some 190)), some (vI ((k : Nat) : Int)), some (vI ((p : Nat) : Int))] [] (HS t m1) _ _
    refine ev_go (pc' := 37) (ls' := [some (vR (some 190)), some (vI ((k : Nat) : Int)), some (vI ((p : Nat) : Int))]) (st' := [vR (some 190), vI ((k : Nat) : Int)]) (h1 := HS t m1) 2 (by rfl) ?_
    refine ev_getIv (v := (((LSM C S).length : Nat) : Int)) rfl rfl (hR1.1) ?_
    refine ev_ic3 rfl (inI_of (by omega) (by omega)) (inI_of (by omega) (by omega)) (fun c40 => absurd c40 (by omega)) (fun c40 => ?_)
    refine ev_go (pc' := 45) (ls' := [some (vR (some 190)), some (vI ((k : Nat) : Int)), some (vI ((p : Nat) : Int))]) (st' := [vR (some 190), vR (some 190)]) (h1 := HS t m1) 2 (by rfl) ?_
    refine ev_getR rfl rfl (rfl : rf 190 18 = some 203) ?_
    refine ev_go (pc' := 49) (ls' := [some (vR (some 190)), some (vI ((k : Nat) : Int)), some (vI ((p : Nat) : Int))]) (st' := [vI ((k : Nat) : Int), vR (some 203), vR (some 190)]) (h1 := HS t m1) 1 (by rfl) ?_
    refine ev_ialdv (k := k) (v := ((r : Nat) : Int)) rfl rfl rfl (by omega) (hv) ?_
    refine ev_go (pc' := 51) (ls' := [some (vR (some 190)), some (vI ((k : Nat) : Int)), some (vI ((p : Nat) : Int))]) (st' := [vI ((p : Nat) : Int), vI ((r : Nat) : Int), vR (some 190)]) (h1 := HS t m1) 1 (by rfl) ?_
    refine ev_call rfl rfl (Nat.le_of_ble_eq_true rfl) htg ⟨Nat.le_refl _, Nat.le_refl _⟩ ?_
    show Ev (PP L xs) _ 117 54 [some (vR (some 190)), some (vI ((k : Nat) : Int)), some (vI ((p : Nat) : Int))] [vI ((r / 5 ^ (S.length - 1 - p) % 5 : Nat) : Int)] (HS t m1) _ _
    refine ev_go (pc' := 58) (ls' := [some (vR (some 190)), some (vI ((k : Nat) : Int)), some (vI ((p : Nat) : Int))]) (st' := [vI ((r / 5 ^ (S.length - 1 - p) % 5 : Nat) : Int)]) (h1 := HS t m1) 1 (by rfl) ?_
    exact ev_retE rfl rfl (by first | rfl | (simp [*]; done) | (split <;> first | rfl | (exfalso; omega))) (by first | rfl | (simp [*]; done) | (split <;> first | rfl | (exfalso; omega)))
  · have e3 : spPathM C S k p = -1 := if_neg c0
    rw [e3]
    refine ev_go (pc' := 2) (ls' := [some (vR (some 190)), some (vI ((k : Nat) : Int)), some (vI ((p : Nat) : Int))]) (st' := [vI ((k : Nat) : Int), vR (some 190)]) (h1 := HS t m) 2 (by rfl) ?_
    refine ev_call rfl rfl (Nat.le_of_ble_eq_true rfl) (m_isRank1 hk) ⟨Nat.le_refl _, Nat.le_refl _⟩ ?_
    show Ev (PP L xs) _ 117 5 [some (vR (some 190)), some (vI ((k : Nat) : Int)), some (vI ((p : Nat) : Int))] [vI 1, vR (some 190)] (HS t m) _ _
    refine ev_if0 rfl rfl (fun c5 => absurd c5 (by decide)) (fun c5 => ?_)
    refine ev_go (pc' := 10) (ls' := [some (vR (some 190)), some (vI ((k : Nat) : Int)), some (vI ((p : Nat) : Int))]) (st' := [vI ((p : Nat) : Int), vR (some 190), vR (some 190)]) (h1 := HS t m) 2 (by rfl) ?_
    refine ev_call rfl rfl (Nat.le_of_ble_eq_true rfl) (m_isPlace1 hs.1 hs.2.1 hp) ⟨Nat.le_refl _, Nat.le_refl _⟩ ?_
    show Ev (PP L xs) _ 117 13 [some (vR (some 190)), some (vI ((k : Nat) : Int)), some (vI ((p : Nat) : Int))] [vI 1, vR (some 190)] (HS t m) _ _
    refine ev_if0 rfl rfl (fun c13 => absurd c13 (by decide)) (fun c13 => ?_)
    refine ev_go (pc' := 21) (ls' := [some (vR (some 190)), some (vI ((k : Nat) : Int)), some (vI ((p : Nat) : Int))]) (st' := [vI 0, vR (some 190)]) (h1 := HS t m) 2 (by rfl) ?_
    refine ev_call rfl rfl (Nat.le_of_ble_eq_true rfl) (m_holds (x := 0) rfl) ⟨Nat.le_refl _, Nat.le_refl _⟩ ?_
    show Ev (PP L xs) _ 117 24 [some (vR (some 190)), some (vI ((k : Nat) : Int)), some (vI ((p : Nat) : Int))] [vI 1] (HS t (up m 190 0 0)) _ _
    refine ev_if1 rfl rfl (fun c24 => ?_) (fun c24 => absurd c24 (by decide))
    refine ev_go (pc' := 32) (ls' := [some (vR (some 190)), some (vI ((k : Nat) : Int)), some (vI ((p : Nat) : Int))]) (st' := [vI 0, vI 0, vR (some 190)]) (h1 := HS t (up m 190 0 0)) 3 (by rfl) ?_
    refine ev_call rfl rfl (Nat.le_of_ble_eq_true rfl) hE1 ⟨Nat.le_refl _, Nat.le_refl _⟩ ?_
    show Ev (PP L xs) _ 117 35 [some (vR (some 190)), some (vI ((k : Nat) : Int)), some (vI ((p : Nat) : Int))] [] (HS t m1) _ _
    refine ev_go (pc' := 37) (ls' := [some (vR (some 190)), some (vI ((k : Nat) : Int)), some (vI ((p : Nat) : Int))]) (st' := [vR (some 190), vI ((k : Nat) : Int)]) (h1 := HS t m1) 2 (by rfl) ?_
    refine ev_getIv (v := (((LSM C S).length : Nat) : Int)) rfl rfl (hR1.1) ?_
    refine ev_ic3 rfl (inI_of (by omega) (by omega)) (inI_of (by omega) (by omega)) (fun c40 => ?_) (fun c40 => absurd c40 (by omega))
    refine ev_go (pc' := 58) (ls' := [some (vR (some 190)), some (vI ((k : Nat) : Int)), some (vI ((p : Nat) : Int))]) (st' := [vI (-1)]) (h1 := HS t m1) 1 (by rfl) ?_
    exact ev_retE rfl rfl (by first | rfl | (simp [*]; done) | (split <;> first | rfl | (exfalso; omega))) (by first | rfl | (simp [*]; done) | (split <;> first | rfl | (exfalso; omega)))
set_option maxRecDepth 10000 in
theorem m_onPathX1 {L : Nat} {xs : Nat → Int32} {t : Bool × Nat × Nat} {m : mMM} {x y : Int} (hI : inI x = true) (h : x < 0 ∨ 10 ≤ x) : Ev (PP L xs) 9 117 0 (entL 3 [vR (some 190), vI x, vI y]) [] (HS t m) (.inl (some (vI 0))) (HS t (up m 190 0 1)) := by
  refine ev_go (pc' := 2) (ls' := [some (vR (some 190)), some (vI x), some (vI y)]) (st' := [vI x, vR (some 190)]) (h1 := HS t m) 2 (by rfl) ?_
  refine ev_call rfl rfl (Nat.le_of_ble_eq_true rfl) (m_isRank0 hI h) ⟨Nat.le_refl _, Nat.le_refl _⟩ ?_
  show Ev (PP L xs) _ 117 5 [some (vR (some 190)), some (vI x), some (vI y)] [vI 0, vR (some 190)] (HS t m) _ _
  refine ev_if0 rfl rfl (fun c5 => ?_) (fun c5 => absurd c5 (by decide))
  refine ev_go (pc' := 21) (ls' := [some (vR (some 190)), some (vI x), some (vI y)]) (st' := [vI 1, vR (some 190)]) (h1 := HS t m) 1 (by rfl) ?_
  refine ev_call rfl rfl (Nat.le_of_ble_eq_true rfl) (m_holds (x := 1) rfl) ⟨Nat.le_refl _, Nat.le_refl _⟩ ?_
  show Ev (PP L xs) _ 117 24 [some (vR (some 190)), some (vI x), some (vI y)] [vI 0] (HS t (up m 190 0 1)) _ _
  refine ev_if1 rfl rfl (fun c24 => absurd c24 (by decide)) (fun c24 => ?_)
  refine ev_go (pc' := 28) (ls' := [some (vR (some 190)), some (vI x), some (vI y)]) (st' := [vI 0]) (h1 := HS t (up m 190 0 1)) 1 (by rfl) ?_
  exact ev_retE rfl rfl (by first | rfl | (simp [*]; done) | (split <;> first | rfl | (exfalso; omega))) (by first | rfl | (simp [*]; done) | (split <;> first | rfl | (exfalso; omega)))
set_option maxRecDepth 10000 in
theorem m_onPathX2 {L : Nat} {xs : Nat → Int32} {t : Bool × Nat × Nat} {m : mMM} {S : List (Int × Int)} {k : Nat} {y : Int} (hs : MSR m S) (hk : k < 10) (hI : inI y = true) (h : y < 0 ∨ (S.length : Int) ≤ y) : Ev (PP L xs) 9 117 0 (entL 3 [vR (some 190), vI ((k : Nat) : Int), vI y]) [] (HS t m) (.inl (some (vI 0))) (HS t (up m 190 0 1)) := by
  refine ev_go (pc' := 2) (ls' := [some (vR (some 190)), some (vI ((k : Nat) : Int)), some (vI y)]) (st' := [vI ((k : Nat) : Int), vR (some 190)]) (h1 := HS t m) 2 (by rfl) ?_
  refine ev_call rfl rfl (Nat.le_of_ble_eq_true rfl) (m_isRank1 hk) ⟨Nat.le_refl _, Nat.le_refl _⟩ ?_
  show Ev (PP L xs) _ 117 5 [some (vR (some 190)), some (vI ((k : Nat) : Int)), some (vI y)] [vI 1, vR (some 190)] (HS t m) _ _
  refine ev_if0 rfl rfl (fun c5 => absurd c5 (by decide)) (fun c5 => ?_)
  refine ev_go (pc' := 10) (ls' := [some (vR (some 190)), some (vI ((k : Nat) : Int)), some (vI y)]) (st' := [vI y, vR (some 190), vR (some 190)]) (h1 := HS t m) 2 (by rfl) ?_
  refine ev_call rfl rfl (Nat.le_of_ble_eq_true rfl) (m_isPlace0 hs.1 hs.2.1 hI h) ⟨Nat.le_refl _, Nat.le_refl _⟩ ?_
  show Ev (PP L xs) _ 117 13 [some (vR (some 190)), some (vI ((k : Nat) : Int)), some (vI y)] [vI 0, vR (some 190)] (HS t m) _ _
  refine ev_if0 rfl rfl (fun c13 => ?_) (fun c13 => absurd c13 (by decide))
  refine ev_go (pc' := 21) (ls' := [some (vR (some 190)), some (vI ((k : Nat) : Int)), some (vI y)]) (st' := [vI 1, vR (some 190)]) (h1 := HS t m) 1 (by rfl) ?_
  refine ev_call rfl rfl (Nat.le_of_ble_eq_true rfl) (m_holds (x := 1) rfl) ⟨Nat.le_refl _, Nat.le_refl _⟩ ?_
  show Ev (PP L xs) _ 117 24 [some (vR (some 190)), some (vI ((k : Nat) : Int)), some (vI y)] [vI 0] (HS t (up m 190 0 1)) _ _
  refine ev_if1 rfl rfl (fun c24 => absurd c24 (by decide)) (fun c24 => ?_)
  refine ev_go (pc' := 28) (ls' := [some (vR (some 190)), some (vI ((k : Nat) : Int)), some (vI y)]) (st' := [vI 0]) (h1 := HS t (up m 190 0 1)) 1 (by rfl) ?_
  exact ev_retE rfl rfl (by first | rfl | (simp [*]; done) | (split <;> first | rfl | (exfalso; omega))) (by first | rfl | (simp [*]; done) | (split <;> first | rfl | (exfalso; omega)))
set_option maxRecDepth 10000 in
theorem m_path {L : Nat} {xs : Nat → Int32} {t : Bool × Nat × Nat} {m : mMM} {C : List Tx} {S : List (Int × Int)} {k p : Nat} (hC : VC C) (hW : WC C) (hS : VS S) (hWS : WS S) (hM : MCR m C) (hs : MSR m S) (hk : k < 10) (hp : p < S.length) : ∃ m', Ev (PP L xs) 10 118 0 (entL 3 [vR (some 190), vI (k : Int), vI (p : Int)]) [] (HS t m) (.inl (some (vI (spPathM C S k p)))) (HS t m') ∧ m' 190 0 = 0 ∧ ∀ b k', (b ≠ 190 ∨ (k' ≠ 0 ∧ k' ≠ 19 ∧ k' ≠ 20 ∧ k' ≠ 21)) → (b < 199 ∨ 203 < b) → m' b k' = m b k' := by
  obtain ⟨m1, hE1, h1, h2⟩ := m_onPath (L := L) (xs := xs) (t := t) hC hW hS hWS hM hs hk hp
  refine ⟨m1, ?_, h1, h2⟩
  refine ev_go (pc' := 3) (ls' := [some (vR (some 190)), some (vI ((k : Nat) : Int)), some (vI ((p : Nat) : Int))]) (st' := [vI ((p : Nat) : Int), vI ((k : Nat) : Int), vR (some 190)]) (h1 := HS t m) 3 (by rfl) ?_
  refine ev_call rfl rfl (Nat.le_of_ble_eq_true rfl) hE1 ⟨Nat.le_refl _, Nat.le_refl _⟩ ?_
  show Ev (PP L xs) _ 118 6 [some (vR (some 190)), some (vI ((k : Nat) : Int)), some (vI ((p : Nat) : Int))] [vI (spPathM C S k p)] (HS t m1) _ _
  exact ev_retE rfl rfl (by first | rfl | (simp [*]; done) | (split <;> first | rfl | (exfalso; omega))) (by first | rfl | (simp [*]; done) | (split <;> first | rfl | (exfalso; omega)))
set_option maxRecDepth 10000 in
theorem m_pathX1 {L : Nat} {xs : Nat → Int32} {t : Bool × Nat × Nat} {m : mMM} {x y : Int} (hI : inI x = true) (h : x < 0 ∨ 10 ≤ x) : Ev (PP L xs) 10 118 0 (entL 3 [vR (some 190), vI x, vI y]) [] (HS t m) (.inl (some (vI 0))) (HS t (up m 190 0 1)) := by
  refine ev_go (pc' := 3) (ls' := [some (vR (some 190)), some (vI x), some (vI y)]) (st' := [vI y, vI x, vR (some 190)]) (h1 := HS t m) 3 (by rfl) ?_
  refine ev_call rfl rfl (Nat.le_of_ble_eq_true rfl) (m_onPathX1 hI h) ⟨Nat.le_refl _, Nat.le_refl _⟩ ?_
  show Ev (PP L xs) _ 118 6 [some (vR (some 190)), some (vI x), some (vI y)] [vI 0] (HS t (up m 190 0 1)) _ _
  exact ev_retE rfl rfl (by first | rfl | (simp [*]; done) | (split <;> first | rfl | (exfalso; omega))) (by first | rfl | (simp [*]; done) | (split <;> first | rfl | (exfalso; omega)))
set_option maxRecDepth 10000 in
theorem m_pathX2 {L : Nat} {xs : Nat → Int32} {t : Bool × Nat × Nat} {m : mMM} {S : List (Int × Int)} {k : Nat} {y : Int} (hs : MSR m S) (hk : k < 10) (hI : inI y = true) (h : y < 0 ∨ (S.length : Int) ≤ y) : Ev (PP L xs) 10 118 0 (entL 3 [vR (some 190), vI ((k : Nat) : Int), vI y]) [] (HS t m) (.inl (some (vI 0))) (HS t (up m 190 0 1)) := by
  refine ev_go (pc' := 3) (ls' := [some (vR (some 190)), some (vI ((k : Nat) : Int)), some (vI y)]) (st' := [vI y, vI ((k : Nat) : Int), vR (some 190)]) (h1 := HS t m) 3 (by rfl) ?_
  refine ev_call rfl rfl (Nat.le_of_ble_eq_true rfl) (m_onPathX2 hs hk hI h) ⟨Nat.le_refl _, Nat.le_refl _⟩ ?_
  show Ev (PP L xs) _ 118 6 [some (vR (some 190)), some (vI ((k : Nat) : Int)), some (vI y)] [vI 0] (HS t (up m 190 0 1)) _ _
  exact ev_retE rfl rfl (by first | rfl | (simp [*]; done) | (split <;> first | rfl | (exfalso; omega))) (by first | rfl | (simp [*]; done) | (split <;> first | rfl | (exfalso; omega)))
set_option maxRecDepth 10000 in
theorem m_pathAnew {L : Nat} {xs : Nat → Int32} {t : Bool × Nat × Nat} {m : mMM} {C : List Tx} {S : List (Int × Int)} {k p : Nat} (hC : VC C) (hW : WC C) (hS : VS S) (hWS : WS S) (hM : MCR m C) (hs : MSR m S) (hk : k < 10) (hp : p < S.length) : ∃ m', Ev (PP L xs) 10 119 0 (entL 3 [vR (some 190), vI (k : Int), vI (p : Int)]) [] (HS t m) (.inl (some (vI (spPathM C S k p)))) (HS t m') ∧ m' 190 0 = 0 ∧ ∀ b k', (b ≠ 190 ∨ (k' ≠ 0 ∧ k' ≠ 19 ∧ k' ≠ 20 ∧ k' ≠ 21)) → (b < 199 ∨ 203 < b) → m' b k' = m b k' := by
  obtain ⟨m1, hE1, h1, h2⟩ := m_onPath (L := L) (xs := xs) (t := t) hC hW hS hWS hM hs hk hp
  refine ⟨m1, ?_, h1, h2⟩
  refine ev_go (pc' := 3) (ls' := [some (vR (some 190)), some (vI ((k : Nat) : Int)), some (vI ((p : Nat) : Int))]) (st' := [vI ((p : Nat) : Int), vI ((k : Nat) : Int), vR (some 190)]) (h1 := HS t m) 3 (by rfl) ?_
  refine ev_call rfl rfl (Nat.le_of_ble_eq_true rfl) hE1 ⟨Nat.le_refl _, Nat.le_refl _⟩ ?_
  show Ev (PP L xs) _ 119 6 [some (vR (some 190)), some (vI ((k : Nat) : Int)), some (vI ((p : Nat) : Int))] [vI (spPathM C S k p)] (HS t m1) _ _
  exact ev_retE rfl rfl (by first | rfl | (simp [*]; done) | (split <;> first | rfl | (exfalso; omega))) (by first | rfl | (simp [*]; done) | (split <;> first | rfl | (exfalso; omega)))
set_option maxRecDepth 10000 in
theorem m_pathAnewX1 {L : Nat} {xs : Nat → Int32} {t : Bool × Nat × Nat} {m : mMM} {x y : Int} (hI : inI x = true) (h : x < 0 ∨ 10 ≤ x) : Ev (PP L xs) 10 119 0 (entL 3 [vR (some 190), vI x, vI y]) [] (HS t m) (.inl (some (vI 0))) (HS t (up m 190 0 1)) := by
  refine ev_go (pc' := 3) (ls' := [some (vR (some 190)), some (vI x), some (vI y)]) (st' := [vI y, vI x, vR (some 190)]) (h1 := HS t m) 3 (by rfl) ?_
  refine ev_call rfl rfl (Nat.le_of_ble_eq_true rfl) (m_onPathX1 hI h) ⟨Nat.le_refl _, Nat.le_refl _⟩ ?_
  show Ev (PP L xs) _ 119 6 [some (vR (some 190)), some (vI x), some (vI y)] [vI 0] (HS t (up m 190 0 1)) _ _
  exact ev_retE rfl rfl (by first | rfl | (simp [*]; done) | (split <;> first | rfl | (exfalso; omega))) (by first | rfl | (simp [*]; done) | (split <;> first | rfl | (exfalso; omega)))
set_option maxRecDepth 10000 in
theorem m_pathAnewX2 {L : Nat} {xs : Nat → Int32} {t : Bool × Nat × Nat} {m : mMM} {S : List (Int × Int)} {k : Nat} {y : Int} (hs : MSR m S) (hk : k < 10) (hI : inI y = true) (h : y < 0 ∨ (S.length : Int) ≤ y) : Ev (PP L xs) 10 119 0 (entL 3 [vR (some 190), vI ((k : Nat) : Int), vI y]) [] (HS t m) (.inl (some (vI 0))) (HS t (up m 190 0 1)) := by
  refine ev_go (pc' := 3) (ls' := [some (vR (some 190)), some (vI ((k : Nat) : Int)), some (vI y)]) (st' := [vI y, vI ((k : Nat) : Int), vR (some 190)]) (h1 := HS t m) 3 (by rfl) ?_
  refine ev_call rfl rfl (Nat.le_of_ble_eq_true rfl) (m_onPathX2 hs hk hI h) ⟨Nat.le_refl _, Nat.le_refl _⟩ ?_
  show Ev (PP L xs) _ 119 6 [some (vR (some 190)), some (vI ((k : Nat) : Int)), some (vI y)] [vI 0] (HS t (up m 190 0 1)) _ _
  exact ev_retE rfl rfl (by first | rfl | (simp [*]; done) | (split <;> first | rfl | (exfalso; omega))) (by first | rfl | (simp [*]; done) | (split <;> first | rfl | (exfalso; omega)))
set_option maxRecDepth 10000 in
theorem m_wor {L : Nat} {xs : Nat → Int32} {t : Bool × Nat × Nat} {m : mMM} {C : List Tx} {S : List (Int × Int)} {k : Nat} (hC : VC C) (hW : WC C) (hS : VS S) (hWS : WS S) (hM : MCR m C) (hs : MSR m S) (hk : k < 10) (h0 : 0 < S.length) : ∃ m', Ev (PP L xs) 9 120 0 (entL 2 [vR (some 190), vI (k : Int)]) [] (HS t m) (.inl (some (vJ (spProdM C S k)))) (HS t m') ∧ FRg m m' := by
  have h5n := hs.2.1
  have hl10 : (LSM C S).length ≤ 10 := (Gd_foldl _ _ Gd_nil).2.1
  obtain ⟨m1, hE1, hR1, h20, h21, hF1⟩ := m_goes (L := L) (xs := xs) (t := t) (d := 5) (P := 0) (G := 0) hC hW hS hWS hM hs h0 (by decide)
  refine ⟨m1, ?_, hF1⟩
  by_cases c0 : k < (LSM C S).length
  · have e3 : spProdM C S k = (gl (LSM C S) k).1 := if_pos c0
    rw [e3]
    refine ev_go (pc' := 3) (ls' := [some (vR (some 190)), some (vI ((k : Nat) : Int))]) (st' := [vI 0, vI 0, vR (some 190)]) (h1 := HS t m) 3 (by rfl) ?_
    refine ev_call rfl rfl (Nat.le_of_ble_eq_true rfl) hE1 ⟨Nat.le_refl _, Nat.le_refl _⟩ ?_
    show Ev (PP L xs) _ 120 6 [some (vR (some 190)), some (vI ((k : Nat) : Int))] [] (HS t m1) _ _
    refine ev_go (pc' := 8) (ls' := [some (vR (some 190)), some (vI ((k : Nat) : Int))]) (st' := [vR (some 190), vI ((k : Nat) : Int)]) (h1 := HS t m1) 2 (by rfl) ?_
    refine ev_getIv (v := (((LSM C S).length : Nat) : Int)) rfl rfl (hR1.1) ?_
    refine ev_ic3 rfl (inI_of (by omega) (by omega)) (inI_of (by omega) (by omega)) (fun c11 => absurd c11 (by omega)) (fun c11 => ?_)
    refine ev_go (pc' := 15) (ls' := [some (vR (some 190)), some (vI ((k : Nat) : Int))]) (st' := [vR (some 190)]) (h1 := HS t m1) 1 (by rfl) ?_
    refine ev_getR rfl rfl (rfl : rf 190 17 = some 202) ?_
    refine ev_go (pc' := 19) (ls' := [some (vR (some 190)), some (vI ((k : Nat) : Int))]) (st' := [vI ((k : Nat) : Int), vR (some 202)]) (h1 := HS t m1) 1 (by rfl) ?_
    refine ev_laldv (k := k) (v := ((gl (LSM C S) k).1)) rfl rfl rfl (by omega) ((hR1.2.2 k c0).1) ?_
    refine ev_go (pc' := 24) (ls' := [some (vR (some 190)), some (vI ((k : Nat) : Int))]) (st' := [vJ ((gl (LSM C S) k).1)]) (h1 := HS t m1) 1 (by rfl) ?_
    exact ev_retE rfl rfl (by first | rfl | (simp [*]; done) | (split <;> first | rfl | (exfalso; omega))) (by first | rfl | (simp [*]; done) | (split <;> first | rfl | (exfalso; omega)))
  · have e3 : spProdM C S k = 0 := if_neg c0
    rw [e3]
    refine ev_go (pc' := 3) (ls' := [some (vR (some 190)), some (vI ((k : Nat) : Int))]) (st' := [vI 0, vI 0, vR (some 190)]) (h1 := HS t m) 3 (by rfl) ?_
    refine ev_call rfl rfl (Nat.le_of_ble_eq_true rfl) hE1 ⟨Nat.le_refl _, Nat.le_refl _⟩ ?_
    show Ev (PP L xs) _ 120 6 [some (vR (some 190)), some (vI ((k : Nat) : Int))] [] (HS t m1) _ _
    refine ev_go (pc' := 8) (ls' := [some (vR (some 190)), some (vI ((k : Nat) : Int))]) (st' := [vR (some 190), vI ((k : Nat) : Int)]) (h1 := HS t m1) 2 (by rfl) ?_
    refine ev_getIv (v := (((LSM C S).length : Nat) : Int)) rfl rfl (hR1.1) ?_
    refine ev_ic3 rfl (inI_of (by omega) (by omega)) (inI_of (by omega) (by omega)) (fun c11 => ?_) (fun c11 => absurd c11 (by omega))
    refine ev_go (pc' := 24) (ls' := [some (vR (some 190)), some (vI ((k : Nat) : Int))]) (st' := [vJ 0]) (h1 := HS t m1) 1 (by rfl) ?_
    exact ev_retE rfl rfl (by first | rfl | (simp [*]; done) | (split <;> first | rfl | (exfalso; omega))) (by first | rfl | (simp [*]; done) | (split <;> first | rfl | (exfalso; omega)))
set_option maxRecDepth 10000 in
theorem m_productX2 {L : Nat} {xs : Nat → Int32} {t : Bool × Nat × Nat} {m : mMM} {x : Int} (hI : inI x = true) (h : x < 0 ∨ 10 ≤ x) : Ev (PP L xs) 10 121 0 (entL 2 [vR (some 190), vI x]) [] (HS t m) (.inl (some (vJ 0))) (HS t (up m 190 0 1)) := by
  refine ev_go (pc' := 2) (ls' := [some (vR (some 190)), some (vI x)]) (st' := [vI x, vR (some 190)]) (h1 := HS t m) 2 (by rfl) ?_
  refine ev_call rfl rfl (Nat.le_of_ble_eq_true rfl) (m_isRank0 hI h) ⟨Nat.le_refl _, Nat.le_refl _⟩ ?_
  show Ev (PP L xs) _ 121 5 [some (vR (some 190)), some (vI x)] [vI 0, vR (some 190)] (HS t m) _ _
  refine ev_if1 rfl rfl (fun c5 => absurd c5 (by decide)) (fun c5 => ?_)
  refine ev_go (pc' := 24) (ls' := [some (vR (some 190)), some (vI x)]) (st' := [vI 1, vR (some 190)]) (h1 := HS t m) 2 (by rfl) ?_
  refine ev_call rfl rfl (Nat.le_of_ble_eq_true rfl) (m_holds (x := 1) rfl) ⟨Nat.le_refl _, Nat.le_refl _⟩ ?_
  show Ev (PP L xs) _ 121 27 [some (vR (some 190)), some (vI x)] [vI 0] (HS t (up m 190 0 1)) _ _
  refine ev_if0 rfl rfl (fun c27 => ?_) (fun c27 => absurd c27 (by decide))
  refine ev_go (pc' := 39) (ls' := [some (vR (some 190)), some (vI x)]) (st' := [vJ 0]) (h1 := HS t (up m 190 0 1)) 1 (by rfl) ?_
  exact ev_retE rfl rfl (by first | rfl | (simp [*]; done) | (split <;> first | rfl | (exfalso; omega))) (by first | rfl | (simp [*]; done) | (split <;> first | rfl | (exfalso; omega)))
set_option maxRecDepth 10000 in
theorem m_productX1 {L : Nat} {xs : Nat → Int32} {t : Bool × Nat × Nat} {m : mMM} {k : Nat} (hk : k < 10) (hn : m 190 13 = 0) : Ev (PP L xs) 10 121 0 (entL 2 [vR (some 190), vI ((k : Nat) : Int)]) [] (HS t m) (.inl (some (vJ 0))) (HS t (up m 190 0 2)) := by
  refine ev_go (pc' := 2) (ls' := [some (vR (some 190)), some (vI ((k : Nat) : Int))]) (st' := [vI ((k : Nat) : Int), vR (some 190)]) (h1 := HS t m) 2 (by rfl) ?_
  refine ev_call rfl rfl (Nat.le_of_ble_eq_true rfl) (m_isRank1 hk) ⟨Nat.le_refl _, Nat.le_refl _⟩ ?_
  show Ev (PP L xs) _ 121 5 [some (vR (some 190)), some (vI ((k : Nat) : Int))] [vI 1, vR (some 190)] (HS t m) _ _
  refine ev_if1 rfl rfl (fun c5 => ?_) (fun c5 => absurd c5 (by decide))
  refine ev_go (pc' := 13) (ls' := [some (vR (some 190)), some (vI ((k : Nat) : Int))]) (st' := [vR (some 190), vR (some 190)]) (h1 := HS t m) 1 (by rfl) ?_
  refine ev_getIv (v := 0) rfl rfl (hn) ?_
  refine ev_if1 rfl rfl (fun c16 => absurd c16 (by decide)) (fun c16 => ?_)
  refine ev_go (pc' := 24) (ls' := [some (vR (some 190)), some (vI ((k : Nat) : Int))]) (st' := [vI 2, vR (some 190)]) (h1 := HS t m) 2 (by rfl) ?_
  refine ev_call rfl rfl (Nat.le_of_ble_eq_true rfl) (m_holds (x := 2) rfl) ⟨Nat.le_refl _, Nat.le_refl _⟩ ?_
  show Ev (PP L xs) _ 121 27 [some (vR (some 190)), some (vI ((k : Nat) : Int))] [vI 0] (HS t (up m 190 0 2)) _ _
  refine ev_if0 rfl rfl (fun c27 => ?_) (fun c27 => absurd c27 (by decide))
  refine ev_go (pc' := 39) (ls' := [some (vR (some 190)), some (vI ((k : Nat) : Int))]) (st' := [vJ 0]) (h1 := HS t (up m 190 0 2)) 1 (by rfl) ?_
  exact ev_retE rfl rfl (by first | rfl | (simp [*]; done) | (split <;> first | rfl | (exfalso; omega))) (by first | rfl | (simp [*]; done) | (split <;> first | rfl | (exfalso; omega)))
set_option maxRecDepth 10000 in
theorem m_product {L : Nat} {xs : Nat → Int32} {t : Bool × Nat × Nat} {m : mMM} {C : List Tx} {S : List (Int × Int)} {k : Nat} (hC : VC C) (hW : WC C) (hS : VS S) (hWS : WS S) (hM : MCR m C) (hs : MSR m S) (hk : k < 10) (h0 : 0 < S.length) : ∃ m', Ev (PP L xs) 10 121 0 (entL 2 [vR (some 190), vI (k : Int)]) [] (HS t m) (.inl (some (vJ (spProdM C S k)))) (HS t m') ∧ m' 190 0 = 0 ∧ ∀ b k', (b ≠ 190 ∨ (k' ≠ 0 ∧ k' ≠ 19 ∧ k' ≠ 20 ∧ k' ≠ 21)) → (b < 199 ∨ 203 < b) → m' b k' = m b k' := by
  have h5n := hs.2.1
  obtain ⟨m1, hE1, hF1⟩ := m_wor (L := L) (xs := xs) (t := t) (k := k) hC hW hS hWS (MCR_up0 0 hM) (MSR_up0 0 hs) hk h0
  have h190 : m1 190 0 = 0 := by rw [hF1 190 0 (by omega) (by omega), up_eq]
  refine ⟨m1, ?_, h190, fun b k' h1 h2 => (hF1 b k' (by omega) h2).trans (up_ne _ _ (by omega))⟩
  refine ev_go (pc' := 2) (ls' := [some (vR (some 190)), some (vI ((k : Nat) : Int))]) (st' := [vI ((k : Nat) : Int), vR (some 190)]) (h1 := HS t m) 2 (by rfl) ?_
  refine ev_call rfl rfl (Nat.le_of_ble_eq_true rfl) (m_isRank1 hk) ⟨Nat.le_refl _, Nat.le_refl _⟩ ?_
  show Ev (PP L xs) _ 121 5 [some (vR (some 190)), some (vI ((k : Nat) : Int))] [vI 1, vR (some 190)] (HS t m) _ _
  refine ev_if1 rfl rfl (fun c5 => ?_) (fun c5 => absurd c5 (by decide))
  refine ev_go (pc' := 13) (ls' := [some (vR (some 190)), some (vI ((k : Nat) : Int))]) (st' := [vR (some 190), vR (some 190)]) (h1 := HS t m) 1 (by rfl) ?_
  refine ev_getIv (v := ((S.length : Nat) : Int)) rfl rfl (hs.1) ?_
  refine ev_if1 rfl (inI_of (by omega) (by omega)) (fun c16 => ?_) (fun c16 => absurd c16 (by omega))
  refine ev_go (pc' := 24) (ls' := [some (vR (some 190)), some (vI ((k : Nat) : Int))]) (st' := [vI 0, vR (some 190)]) (h1 := HS t m) 1 (by rfl) ?_
  refine ev_call rfl rfl (Nat.le_of_ble_eq_true rfl) (m_holds (x := 0) rfl) ⟨Nat.le_refl _, Nat.le_refl _⟩ ?_
  show Ev (PP L xs) _ 121 27 [some (vR (some 190)), some (vI ((k : Nat) : Int))] [vI 1] (HS t (up m 190 0 0)) _ _
  refine ev_if0 rfl rfl (fun c27 => absurd c27 (by decide)) (fun c27 => ?_)
  refine ev_go (pc' := 32) (ls' := [some (vR (some 190)), some (vI ((k : Nat) : Int))]) (st' := [vI ((k : Nat) : Int), vR (some 190)]) (h1 := HS t (up m 190 0 0)) 2 (by rfl) ?_
  refine ev_call rfl rfl (Nat.le_of_ble_eq_true rfl) hE1 ⟨Nat.le_refl _, Nat.le_refl _⟩ ?_
  show Ev (PP L xs) _ 121 35 [some (vR (some 190)), some (vI ((k : Nat) : Int))] [vJ (spProdM C S k)] (HS t m1) _ _
  refine ev_go (pc' := 39) (ls' := [some (vR (some 190)), some (vI ((k : Nat) : Int))]) (st' := [vJ (spProdM C S k)]) (h1 := HS t m1) 1 (by rfl) ?_
  exact ev_retE rfl rfl (by first | rfl | (simp [*]; done) | (split <;> first | rfl | (exfalso; omega))) (by first | rfl | (simp [*]; done) | (split <;> first | rfl | (exfalso; omega)))
set_option maxRecDepth 10000 in
theorem ml_cost {L : Nat} {xs : Nat → Int32} {t : Bool × Nat × Nat} {d : Nat} {m : mMM} : ∀ (c : Nat) (n w : Int), 1152921504606846976 ≤ w * (2 : Int) ^ c → 0 < w → w < 2305843009213693952 → Ev (PP L xs) d 122 29 [some (vR (some 190)), some (vI n), some (vJ w), none] [] (HS t m) (.inl (some (vI (n + dbF c w)))) (HS t m) := by
  intro c
  induction c with
  | zero =>
    intro n w h h0 h1
    rw [show (2 : Int) ^ 0 = 1 from rfl, Int.mul_one] at h
    rw [show n + dbF 0 w = n from Int.add_zero n]
    refine ev_go (pc' := 33) (ls' := [some (vR (some 190)), some (vI n), some (vJ w), none]) (st' := [vJ 1152921504606846975, vJ w]) (h1 := HS t m) 2 (by rfl) ?_
    refine ev_lcmp rfl (inJ_of (by omega) (by omega)) rfl ?_
    refine ev_if4 rfl (cmp_in _ _) (fun c34 => ?_) (fun c34 => absurd (cz_le (show _ ≤ 0 by omega)) (by omega))
    refine ev_go (pc' := 50) (ls' := [some (vR (some 190)), some (vI n), some (vJ w), none]) (st' := [vI n]) (h1 := HS t m) 1 (by rfl) ?_
    exact ev_retE rfl rfl rfl rfl
  | succ c IH =>
    intro n w h h0 h1
    show Ev _ _ _ _ _ _ _ (.inl (some (vI (n + (if w ≤ 1152921504606846975 then 1 + dbF c (w + w) else 0))))) _
    by_cases h2 : w ≤ 1152921504606846975
    · rw [if_pos h2]
      have h3 := IH (n + 1) (w * 2) (by rw [Int.pow_succ, Int.mul_comm ((2 : Int) ^ c) 2, ← Int.mul_assoc] at h; exact h) (by omega) (by omega)
      rw [show w * 2 = w + w by omega, Int.add_assoc] at h3
      refine ev_go (pc' := 33) (ls' := [some (vR (some 190)), some (vI n), some (vJ w), none]) (st' := [vJ 1152921504606846975, vJ w]) (h1 := HS t m) 2 (by rfl) ?_
      refine ev_lcmp rfl (inJ_of (by omega) (by omega)) rfl ?_
      refine ev_if4 rfl (cmp_in _ _) (fun c34 => absurd (cz_gt c34) (by omega)) (fun c34 => ?_)
      refine ev_go (pc' := 29) (ls' := [some (vR (some 190)), some (vI (n + 1)), some (vJ (w * 2)), none]) (st' := []) (h1 := HS t m) 6 (by rfl) ?_
      rw [show w * 2 = w + w by omega]
      exact h3
    · rw [if_neg h2, Int.add_zero]
      refine ev_go (pc' := 33) (ls' := [some (vR (some 190)), some (vI n), some (vJ w), none]) (st' := [vJ 1152921504606846975, vJ w]) (h1 := HS t m) 2 (by rfl) ?_
      refine ev_lcmp rfl (inJ_of (by omega) (by omega)) rfl ?_
      refine ev_if4 rfl (cmp_in _ _) (fun c34 => ?_) (fun c34 => absurd (cz_le (show _ ≤ 0 by omega)) (by omega))
      refine ev_go (pc' := 50) (ls' := [some (vR (some 190)), some (vI n), some (vJ w), none]) (st' := [vI n]) (h1 := HS t m) 1 (by rfl) ?_
      exact ev_retE rfl rfl rfl rfl
set_option maxRecDepth 10000 in
theorem m_costX1 {L : Nat} {xs : Nat → Int32} {t : Bool × Nat × Nat} {m : mMM} (hn : m 190 13 = 0) : Ev (PP L xs) 10 122 0 (entL 4 [vR (some 190)]) [] (HS t m) (.inl (some (vI 0))) (HS t (up m 190 0 1)) := by
  refine ev_go (pc' := 2) (ls' := [some (vR (some 190)), none, none, none]) (st' := [vR (some 190), vR (some 190)]) (h1 := HS t m) 2 (by rfl) ?_
  refine ev_getIv (v := 0) rfl rfl (hn) ?_
  refine ev_if1 rfl rfl (fun c5 => absurd c5 (by decide)) (fun c5 => ?_)
  refine ev_go (pc' := 13) (ls' := [some (vR (some 190)), none, none, none]) (st' := [vI 1, vR (some 190)]) (h1 := HS t m) 2 (by rfl) ?_
  refine ev_call rfl rfl (Nat.le_of_ble_eq_true rfl) (m_holds (x := 1) rfl) ⟨Nat.le_refl _, Nat.le_refl _⟩ ?_
  show Ev (PP L xs) _ 122 16 [some (vR (some 190)), none, none, none] [vI 0] (HS t (up m 190 0 1)) _ _
  refine ev_if1 rfl rfl (fun c16 => absurd c16 (by decide)) (fun c16 => ?_)
  refine ev_go (pc' := 20) (ls' := [some (vR (some 190)), none, none, none]) (st' := [vI 0]) (h1 := HS t (up m 190 0 1)) 1 (by rfl) ?_
  exact ev_retE rfl rfl (by first | rfl | (simp [*]; done) | (split <;> first | rfl | (exfalso; omega))) (by first | rfl | (simp [*]; done) | (split <;> first | rfl | (exfalso; omega)))
set_option maxRecDepth 10000 in
theorem m_cost {L : Nat} {xs : Nat → Int32} {t : Bool × Nat × Nat} {m : mMM} {C : List Tx} {S : List (Int × Int)} (hC : VC C) (hW : WC C) (hS : VS S) (hWS : WS S) (hM : MCR m C) (hs : MSR m S) (h0 : 0 < S.length) (hw : 0 < spProdM C S 0 ∧ spProdM C S 0 ≤ 992436543) : ∃ m', Ev (PP L xs) 10 122 0 (entL 4 [vR (some 190)]) [] (HS t m) (.inl (some (vI (dbF 60 (spProdM C S 0))))) (HS t m') ∧ m' 190 0 = 0 ∧ ∀ b k', (b ≠ 190 ∨ (k' ≠ 0 ∧ k' ≠ 19 ∧ k' ≠ 20 ∧ k' ≠ 21)) → (b < 199 ∨ 203 < b) → m' b k' = m b k' := by
  have h5n := hs.2.1
  obtain ⟨m1, hE1, hF1⟩ := m_wor (L := L) (xs := xs) (t := t) (k := 0) hC hW hS hWS (MCR_up0 0 hM) (MSR_up0 0 hs) (by decide) h0
  have h190 : m1 190 0 = 0 := by rw [hF1 190 0 (by omega) (by omega), up_eq]
  refine ⟨m1, ?_, h190, fun b k' h1 h2 => (hF1 b k' (by omega) h2).trans (up_ne _ _ (by omega))⟩
  refine ev_go (pc' := 2) (ls' := [some (vR (some 190)), none, none, none]) (st' := [vR (some 190), vR (some 190)]) (h1 := HS t m) 2 (by rfl) ?_
  refine ev_getIv (v := ((S.length : Nat) : Int)) rfl rfl (hs.1) ?_
  refine ev_if1 rfl (inI_of (by omega) (by omega)) (fun c5 => ?_) (fun c5 => absurd c5 (by omega))
  refine ev_go (pc' := 13) (ls' := [some (vR (some 190)), none, none, none]) (st' := [vI 0, vR (some 190)]) (h1 := HS t m) 1 (by rfl) ?_
  refine ev_call rfl rfl (Nat.le_of_ble_eq_true rfl) (m_holds (x := 0) rfl) ⟨Nat.le_refl _, Nat.le_refl _⟩ ?_
  show Ev (PP L xs) _ 122 16 [some (vR (some 190)), none, none, none] [vI 1] (HS t (up m 190 0 0)) _ _
  refine ev_if1 rfl rfl (fun c16 => ?_) (fun c16 => absurd c16 (by decide))
  refine ev_go (pc' := 25) (ls' := [some (vR (some 190)), some (vI 0), none, none]) (st' := [vI 0, vR (some 190)]) (h1 := HS t (up m 190 0 0)) 4 (by rfl) ?_
  refine ev_call rfl rfl (Nat.le_of_ble_eq_true rfl) hE1 ⟨Nat.le_refl _, Nat.le_refl _⟩ ?_
  show Ev (PP L xs) _ 122 28 [some (vR (some 190)), some (vI 0), none, none] [vJ (spProdM C S 0)] (HS t m1) _ _
  refine ev_go (pc' := 29) (ls' := [some (vR (some 190)), some (vI 0), some (vJ (spProdM C S 0)), none]) (st' := []) (h1 := HS t m1) 1 (by rfl) ?_
  have hc := ml_cost (L := L) (xs := xs) (t := t) (d := 10) (m := m1) 60 0 (spProdM C S 0) (by rw [show (2 : Int) ^ 60 = 1152921504606846976 from rfl]; omega) hw.1 (by omega)
  rw [Int.zero_add] at hc
  exact hc
set_option maxRecDepth 10000 in
theorem m_shareOf {L : Nat} {xs : Nat → Int32} {t : Bool × Nat × Nat} {m : mMM} {C : List Tx} {S : List (Int × Int)} {p g : Nat} (hC : VC C) (hW : WC C) (hS : VS S) (hWS : WS S) (hM : MCR m C) (hs : MSR m S) (hp : p < S.length) (hg : g < 5) : ∃ m', Ev (PP L xs) 9 123 0 (entL 3 [vR (some 190), vI (p : Int), vI (g : Int)]) [] (HS t m) (.inl (some (vI (spShare C S p g)))) (HS t m') ∧ m' 190 0 = 0 ∧ ∀ b k', (b ≠ 190 ∨ (k' ≠ 0 ∧ k' ≠ 19 ∧ k' ≠ 20 ∧ k' ≠ 21)) → (b < 199 ∨ 203 < b) → m' b k' = m b k' := by
  have h5n := hs.2.1
  obtain ⟨m1, hE1, -, h20, h21, hF1⟩ := m_goes (L := L) (xs := xs) (t := t) (d := 5) (P := p) (G := g) hC hW hS hWS (MCR_up0 0 hM) (MSR_up0 0 hs) hp hg
  have hb1 := PS_bd (AB_s hC S) h5n (S.length - 1 - p) g
  have hb2 := all_bd (AB_s hC S) h5n
  have hb3 := TOT_pos hC hS
  have hb4 : sumR (5 ^ S.length) (wt (sA0 C S) (sAA C S) S.length) = TOT C S := rfl
  rw [hb4] at hb1 hb2
  show ∃ m', Ev _ _ _ _ _ _ _ (.inl (some (vI (Int.tdiv (1000 * PS (sA0 C S) (sAA C S) S.length (S.length - 1 - p) g) (TOT C S))))) _ ∧ _
  have h190 : m1 190 0 = 0 := by rw [hF1 190 0 (by omega) (by omega), up_eq]
  refine ⟨m1, ?_, h190, fun b k' h1 h2 => (hF1 b k' (by omega) h2).trans (up_ne _ _ (by omega))⟩
  refine ev_go (pc' := 3) (ls' := [some (vR (some 190)), some (vI ((p : Nat) : Int)), some (vI ((g : Nat) : Int))]) (st' := [vI ((p : Nat) : Int), vR (some 190), vR (some 190)]) (h1 := HS t m) 3 (by rfl) ?_
  refine ev_call rfl rfl (Nat.le_of_ble_eq_true rfl) (m_isPlace1 hs.1 hs.2.1 hp) ⟨Nat.le_refl _, Nat.le_refl _⟩ ?_
  show Ev (PP L xs) _ 123 6 [some (vR (some 190)), some (vI ((p : Nat) : Int)), some (vI ((g : Nat) : Int))] [vI 1, vR (some 190)] (HS t m) _ _
  refine ev_if0 rfl rfl (fun c6 => absurd c6 (by decide)) (fun c6 => ?_)
  refine ev_go (pc' := 10) (ls' := [some (vR (some 190)), some (vI ((p : Nat) : Int)), some (vI ((g : Nat) : Int))]) (st' := [vI ((g : Nat) : Int), vR (some 190)]) (h1 := HS t m) 1 (by rfl) ?_
  refine ev_call rfl rfl (Nat.le_of_ble_eq_true rfl) (m_isTag1 hg) ⟨Nat.le_refl _, Nat.le_refl _⟩ ?_
  show Ev (PP L xs) _ 123 13 [some (vR (some 190)), some (vI ((p : Nat) : Int)), some (vI ((g : Nat) : Int))] [vI 1, vR (some 190)] (HS t m) _ _
  refine ev_if0 rfl rfl (fun c13 => absurd c13 (by decide)) (fun c13 => ?_)
  refine ev_go (pc' := 21) (ls' := [some (vR (some 190)), some (vI ((p : Nat) : Int)), some (vI ((g : Nat) : Int))]) (st' := [vI 0, vR (some 190)]) (h1 := HS t m) 2 (by rfl) ?_
  refine ev_call rfl rfl (Nat.le_of_ble_eq_true rfl) (m_holds (x := 0) rfl) ⟨Nat.le_refl _, Nat.le_refl _⟩ ?_
  show Ev (PP L xs) _ 123 24 [some (vR (some 190)), some (vI ((p : Nat) : Int)), some (vI ((g : Nat) : Int))] [vI 1] (HS t (up m 190 0 0)) _ _
  refine ev_if1 rfl rfl (fun c24 => ?_) (fun c24 => absurd c24 (by decide))
  refine ev_go (pc' := 32) (ls' := [some (vR (some 190)), some (vI ((p : Nat) : Int)), some (vI ((g : Nat) : Int))]) (st' := [vI ((g : Nat) : Int), vI ((p : Nat) : Int), vR (some 190)]) (h1 := HS t (up m 190 0 0)) 3 (by rfl) ?_
  refine ev_call rfl rfl (Nat.le_of_ble_eq_true rfl) hE1 ⟨Nat.le_refl _, Nat.le_refl _⟩ ?_
  show Ev (PP L xs) _ 123 35 [some (vR (some 190)), some (vI ((p : Nat) : Int)), some (vI ((g : Nat) : Int))] [] (HS t m1) _ _
  refine ev_go (pc' := 39) (ls' := [some (vR (some 190)), some (vI ((p : Nat) : Int)), some (vI ((g : Nat) : Int))]) (st' := [vR (some 190), vJ 1000]) (h1 := HS t m1) 2 (by rfl) ?_
  refine ev_getJv (v := (PS (sA0 C S) (sAA C S) S.length (S.length - 1 - p) g)) rfl rfl (h21) ?_
  refine ev_go (pc' := 44) (ls' := [some (vR (some 190)), some (vI ((p : Nat) : Int)), some (vI ((g : Nat) : Int))]) (st' := [vR (some 190), vJ (1000 * (PS (sA0 C S) (sAA C S) S.length (S.length - 1 - p) g))]) (h1 := HS t m1) 2 (by rfl) ?_
  refine ev_getJv (v := (TOT C S)) rfl rfl (h20) ?_
  refine ev_ldiv rfl (inJ_of (by omega) (by omega)) (inJ_of (by omega) (by omega)) (by omega) ?_
  refine ev_go (pc' := 49) (ls' := [some (vR (some 190)), some (vI ((p : Nat) : Int)), some (vI ((g : Nat) : Int))]) (st' := [vI (Int.tdiv (1000 * (PS (sA0 C S) (sAA C S) S.length (S.length - 1 - p) g)) (TOT C S))]) (h1 := HS t m1) 1 (by rfl) ?_
  exact ev_retE rfl rfl rfl rfl
set_option maxRecDepth 10000 in
theorem m_shareOfX1 {L : Nat} {xs : Nat → Int32} {t : Bool × Nat × Nat} {m : mMM} {S : List (Int × Int)} {x y : Int} (hs : MSR m S) (hI : inI x = true) (h : x < 0 ∨ (S.length : Int) ≤ x) : Ev (PP L xs) 9 123 0 (entL 3 [vR (some 190), vI x, vI y]) [] (HS t m) (.inl (some (vI 0))) (HS t (up m 190 0 1)) := by
  refine ev_go (pc' := 3) (ls' := [some (vR (some 190)), some (vI x), some (vI y)]) (st' := [vI x, vR (some 190), vR (some 190)]) (h1 := HS t m) 3 (by rfl) ?_
  refine ev_call rfl rfl (Nat.le_of_ble_eq_true rfl) (m_isPlace0 hs.1 hs.2.1 hI h) ⟨Nat.le_refl _, Nat.le_refl _⟩ ?_
  show Ev (PP L xs) _ 123 6 [some (vR (some 190)), some (vI x), some (vI y)] [vI 0, vR (some 190)] (HS t m) _ _
  refine ev_if0 rfl rfl (fun c6 => ?_) (fun c6 => absurd c6 (by decide))
  refine ev_go (pc' := 21) (ls' := [some (vR (some 190)), some (vI x), some (vI y)]) (st' := [vI 1, vR (some 190)]) (h1 := HS t m) 1 (by rfl) ?_
  refine ev_call rfl rfl (Nat.le_of_ble_eq_true rfl) (m_holds (x := 1) rfl) ⟨Nat.le_refl _, Nat.le_refl _⟩ ?_
  show Ev (PP L xs) _ 123 24 [some (vR (some 190)), some (vI x), some (vI y)] [vI 0] (HS t (up m 190 0 1)) _ _
  refine ev_if1 rfl rfl (fun c24 => absurd c24 (by decide)) (fun c24 => ?_)
  refine ev_go (pc' := 28) (ls' := [some (vR (some 190)), some (vI x), some (vI y)]) (st' := [vI 0]) (h1 := HS t (up m 190 0 1)) 1 (by rfl) ?_
  exact ev_retE rfl rfl (by first | rfl | (simp [*]; done) | (split <;> first | rfl | (exfalso; omega))) (by first | rfl | (simp [*]; done) | (split <;> first | rfl | (exfalso; omega)))
set_option maxRecDepth 10000 in
theorem m_shareOfX2 {L : Nat} {xs : Nat → Int32} {t : Bool × Nat × Nat} {m : mMM} {S : List (Int × Int)} {p : Nat} {y : Int} (hs : MSR m S) (hp : p < S.length) (hI : inI y = true) (h : y < 0 ∨ 5 ≤ y) : Ev (PP L xs) 9 123 0 (entL 3 [vR (some 190), vI ((p : Nat) : Int), vI y]) [] (HS t m) (.inl (some (vI 0))) (HS t (up m 190 0 1)) := by
  refine ev_go (pc' := 3) (ls' := [some (vR (some 190)), some (vI ((p : Nat) : Int)), some (vI y)]) (st' := [vI ((p : Nat) : Int), vR (some 190), vR (some 190)]) (h1 := HS t m) 3 (by rfl) ?_
  refine ev_call rfl rfl (Nat.le_of_ble_eq_true rfl) (m_isPlace1 hs.1 hs.2.1 hp) ⟨Nat.le_refl _, Nat.le_refl _⟩ ?_
  show Ev (PP L xs) _ 123 6 [some (vR (some 190)), some (vI ((p : Nat) : Int)), some (vI y)] [vI 1, vR (some 190)] (HS t m) _ _
  refine ev_if0 rfl rfl (fun c6 => absurd c6 (by decide)) (fun c6 => ?_)
  refine ev_go (pc' := 10) (ls' := [some (vR (some 190)), some (vI ((p : Nat) : Int)), some (vI y)]) (st' := [vI y, vR (some 190)]) (h1 := HS t m) 1 (by rfl) ?_
  refine ev_call rfl rfl (Nat.le_of_ble_eq_true rfl) (m_isTag0 hI h) ⟨Nat.le_refl _, Nat.le_refl _⟩ ?_
  show Ev (PP L xs) _ 123 13 [some (vR (some 190)), some (vI ((p : Nat) : Int)), some (vI y)] [vI 0, vR (some 190)] (HS t m) _ _
  refine ev_if0 rfl rfl (fun c13 => ?_) (fun c13 => absurd c13 (by decide))
  refine ev_go (pc' := 21) (ls' := [some (vR (some 190)), some (vI ((p : Nat) : Int)), some (vI y)]) (st' := [vI 1, vR (some 190)]) (h1 := HS t m) 1 (by rfl) ?_
  refine ev_call rfl rfl (Nat.le_of_ble_eq_true rfl) (m_holds (x := 1) rfl) ⟨Nat.le_refl _, Nat.le_refl _⟩ ?_
  show Ev (PP L xs) _ 123 24 [some (vR (some 190)), some (vI ((p : Nat) : Int)), some (vI y)] [vI 0] (HS t (up m 190 0 1)) _ _
  refine ev_if1 rfl rfl (fun c24 => absurd c24 (by decide)) (fun c24 => ?_)
  refine ev_go (pc' := 28) (ls' := [some (vR (some 190)), some (vI ((p : Nat) : Int)), some (vI y)]) (st' := [vI 0]) (h1 := HS t (up m 190 0 1)) 1 (by rfl) ?_
  exact ev_retE rfl rfl (by first | rfl | (simp [*]; done) | (split <;> first | rfl | (exfalso; omega))) (by first | rfl | (simp [*]; done) | (split <;> first | rfl | (exfalso; omega)))
set_option maxRecDepth 10000 in
theorem m_share {L : Nat} {xs : Nat → Int32} {t : Bool × Nat × Nat} {m : mMM} {C : List Tx} {S : List (Int × Int)} {p g : Nat} (hC : VC C) (hW : WC C) (hS : VS S) (hWS : WS S) (hM : MCR m C) (hs : MSR m S) (hp : p < S.length) (hg : g < 5) : ∃ m', Ev (PP L xs) 10 124 0 (entL 3 [vR (some 190), vI (p : Int), vI (g : Int)]) [] (HS t m) (.inl (some (vI (spShare C S p g)))) (HS t m') ∧ m' 190 0 = 0 ∧ ∀ b k', (b ≠ 190 ∨ (k' ≠ 0 ∧ k' ≠ 19 ∧ k' ≠ 20 ∧ k' ≠ 21)) → (b < 199 ∨ 203 < b) → m' b k' = m b k' := by
  obtain ⟨m1, hE1, h1, h2⟩ := m_shareOf (L := L) (xs := xs) (t := t) hC hW hS hWS hM hs hp hg
  refine ⟨m1, ?_, h1, h2⟩
  refine ev_go (pc' := 3) (ls' := [some (vR (some 190)), some (vI ((p : Nat) : Int)), some (vI ((g : Nat) : Int))]) (st' := [vI ((g : Nat) : Int), vI ((p : Nat) : Int), vR (some 190)]) (h1 := HS t m) 3 (by rfl) ?_
  refine ev_call rfl rfl (Nat.le_of_ble_eq_true rfl) hE1 ⟨Nat.le_refl _, Nat.le_refl _⟩ ?_
  show Ev (PP L xs) _ 124 6 [some (vR (some 190)), some (vI ((p : Nat) : Int)), some (vI ((g : Nat) : Int))] [vI (spShare C S p g)] (HS t m1) _ _
  exact ev_retE rfl rfl (by first | rfl | (simp [*]; done) | (split <;> first | rfl | (exfalso; omega))) (by first | rfl | (simp [*]; done) | (split <;> first | rfl | (exfalso; omega)))
set_option maxRecDepth 10000 in
theorem m_shareX1 {L : Nat} {xs : Nat → Int32} {t : Bool × Nat × Nat} {m : mMM} {S : List (Int × Int)} {x y : Int} (hs : MSR m S) (hI : inI x = true) (h : x < 0 ∨ (S.length : Int) ≤ x) : Ev (PP L xs) 10 124 0 (entL 3 [vR (some 190), vI x, vI y]) [] (HS t m) (.inl (some (vI 0))) (HS t (up m 190 0 1)) := by
  refine ev_go (pc' := 3) (ls' := [some (vR (some 190)), some (vI x), some (vI y)]) (st' := [vI y, vI x, vR (some 190)]) (h1 := HS t m) 3 (by rfl) ?_
  refine ev_call rfl rfl (Nat.le_of_ble_eq_true rfl) (m_shareOfX1 hs hI h) ⟨Nat.le_refl _, Nat.le_refl _⟩ ?_
  show Ev (PP L xs) _ 124 6 [some (vR (some 190)), some (vI x), some (vI y)] [vI 0] (HS t (up m 190 0 1)) _ _
  exact ev_retE rfl rfl (by first | rfl | (simp [*]; done) | (split <;> first | rfl | (exfalso; omega))) (by first | rfl | (simp [*]; done) | (split <;> first | rfl | (exfalso; omega)))
set_option maxRecDepth 10000 in
theorem m_shareX2 {L : Nat} {xs : Nat → Int32} {t : Bool × Nat × Nat} {m : mMM} {S : List (Int × Int)} {p : Nat} {y : Int} (hs : MSR m S) (hp : p < S.length) (hI : inI y = true) (h : y < 0 ∨ 5 ≤ y) : Ev (PP L xs) 10 124 0 (entL 3 [vR (some 190), vI ((p : Nat) : Int), vI y]) [] (HS t m) (.inl (some (vI 0))) (HS t (up m 190 0 1)) := by
  refine ev_go (pc' := 3) (ls' := [some (vR (some 190)), some (vI ((p : Nat) : Int)), some (vI y)]) (st' := [vI y, vI ((p : Nat) : Int), vR (some 190)]) (h1 := HS t m) 3 (by rfl) ?_
  refine ev_call rfl rfl (Nat.le_of_ble_eq_true rfl) (m_shareOfX2 hs hp hI h) ⟨Nat.le_refl _, Nat.le_refl _⟩ ?_
  show Ev (PP L xs) _ 124 6 [some (vR (some 190)), some (vI ((p : Nat) : Int)), some (vI y)] [vI 0] (HS t (up m 190 0 1)) _ _
  exact ev_retE rfl rfl (by first | rfl | (simp [*]; done) | (split <;> first | rfl | (exfalso; omega))) (by first | rfl | (simp [*]; done) | (split <;> first | rfl | (exfalso; omega)))
set_option maxRecDepth 10000 in
theorem m_shareAnew {L : Nat} {xs : Nat → Int32} {t : Bool × Nat × Nat} {m : mMM} {C : List Tx} {S : List (Int × Int)} {p g : Nat} (hC : VC C) (hW : WC C) (hS : VS S) (hWS : WS S) (hM : MCR m C) (hs : MSR m S) (hp : p < S.length) (hg : g < 5) : ∃ m', Ev (PP L xs) 10 125 0 (entL 3 [vR (some 190), vI (p : Int), vI (g : Int)]) [] (HS t m) (.inl (some (vI (spShare C S p g)))) (HS t m') ∧ m' 190 0 = 0 ∧ ∀ b k', (b ≠ 190 ∨ (k' ≠ 0 ∧ k' ≠ 19 ∧ k' ≠ 20 ∧ k' ≠ 21)) → (b < 199 ∨ 203 < b) → m' b k' = m b k' := by
  obtain ⟨m1, hE1, h1, h2⟩ := m_shareOf (L := L) (xs := xs) (t := t) hC hW hS hWS hM hs hp hg
  refine ⟨m1, ?_, h1, h2⟩
  refine ev_go (pc' := 3) (ls' := [some (vR (some 190)), some (vI ((p : Nat) : Int)), some (vI ((g : Nat) : Int))]) (st' := [vI ((g : Nat) : Int), vI ((p : Nat) : Int), vR (some 190)]) (h1 := HS t m) 3 (by rfl) ?_
  refine ev_call rfl rfl (Nat.le_of_ble_eq_true rfl) hE1 ⟨Nat.le_refl _, Nat.le_refl _⟩ ?_
  show Ev (PP L xs) _ 125 6 [some (vR (some 190)), some (vI ((p : Nat) : Int)), some (vI ((g : Nat) : Int))] [vI (spShare C S p g)] (HS t m1) _ _
  exact ev_retE rfl rfl (by first | rfl | (simp [*]; done) | (split <;> first | rfl | (exfalso; omega))) (by first | rfl | (simp [*]; done) | (split <;> first | rfl | (exfalso; omega)))
set_option maxRecDepth 10000 in
theorem m_shareAnewX1 {L : Nat} {xs : Nat → Int32} {t : Bool × Nat × Nat} {m : mMM} {S : List (Int × Int)} {x y : Int} (hs : MSR m S) (hI : inI x = true) (h : x < 0 ∨ (S.length : Int) ≤ x) : Ev (PP L xs) 10 125 0 (entL 3 [vR (some 190), vI x, vI y]) [] (HS t m) (.inl (some (vI 0))) (HS t (up m 190 0 1)) := by
  refine ev_go (pc' := 3) (ls' := [some (vR (some 190)), some (vI x), some (vI y)]) (st' := [vI y, vI x, vR (some 190)]) (h1 := HS t m) 3 (by rfl) ?_
  refine ev_call rfl rfl (Nat.le_of_ble_eq_true rfl) (m_shareOfX1 hs hI h) ⟨Nat.le_refl _, Nat.le_refl _⟩ ?_
  show Ev (PP L xs) _ 125 6 [some (vR (some 190)), some (vI x), some (vI y)] [vI 0] (HS t (up m 190 0 1)) _ _
  exact ev_retE rfl rfl (by first | rfl | (simp [*]; done) | (split <;> first | rfl | (exfalso; omega))) (by first | rfl | (simp [*]; done) | (split <;> first | rfl | (exfalso; omega)))
set_option maxRecDepth 10000 in
theorem m_shareAnewX2 {L : Nat} {xs : Nat → Int32} {t : Bool × Nat × Nat} {m : mMM} {S : List (Int × Int)} {p : Nat} {y : Int} (hs : MSR m S) (hp : p < S.length) (hI : inI y = true) (h : y < 0 ∨ 5 ≤ y) : Ev (PP L xs) 10 125 0 (entL 3 [vR (some 190), vI ((p : Nat) : Int), vI y]) [] (HS t m) (.inl (some (vI 0))) (HS t (up m 190 0 1)) := by
  refine ev_go (pc' := 3) (ls' := [some (vR (some 190)), some (vI ((p : Nat) : Int)), some (vI y)]) (st' := [vI y, vI ((p : Nat) : Int), vR (some 190)]) (h1 := HS t m) 3 (by rfl) ?_
  refine ev_call rfl rfl (Nat.le_of_ble_eq_true rfl) (m_shareOfX2 hs hp hI h) ⟨Nat.le_refl _, Nat.le_refl _⟩ ?_
  show Ev (PP L xs) _ 125 6 [some (vR (some 190)), some (vI ((p : Nat) : Int)), some (vI y)] [vI 0] (HS t (up m 190 0 1)) _ _
  exact ev_retE rfl rfl (by first | rfl | (simp [*]; done) | (split <;> first | rfl | (exfalso; omega))) (by first | rfl | (simp [*]; done) | (split <;> first | rfl | (exfalso; omega)))
set_option maxRecDepth 10000 in
theorem m_weightX2 {L : Nat} {xs : Nat → Int32} {t : Bool × Nat × Nat} {m : mMM} {x : Int} (h : x < 0 ∨ 5 ≤ x) (hI : inI x = true) : Ev (PP L xs) 10 114 0 (entL 2 [vR (some 190), vI x]) [] (HS t m) (.inl (some (vI 0))) (HS t (up m 190 0 1)) := by
  refine ev_go (pc' := 2) (ls' := [some (vR (some 190)), some (vI x)]) (st' := [vI x, vR (some 190)]) (h1 := HS t m) 2 (by rfl) ?_
  refine ev_call rfl rfl (Nat.le_of_ble_eq_true rfl) (m_isTag0 hI h) ⟨Nat.le_refl _, Nat.le_refl _⟩ ?_
  show Ev (PP L xs) _ 114 5 [some (vR (some 190)), some (vI x)] [vI 0, vR (some 190)] (HS t m) _ _
  refine ev_if1 rfl rfl (fun c5 => absurd c5 (by decide)) (fun c5 => ?_)
  refine ev_go (pc' := 24) (ls' := [some (vR (some 190)), some (vI x)]) (st' := [vI 1, vR (some 190)]) (h1 := HS t m) 2 (by rfl) ?_
  refine ev_call rfl rfl (Nat.le_of_ble_eq_true rfl) (m_holds (x := 1) rfl) ⟨Nat.le_refl _, Nat.le_refl _⟩ ?_
  show Ev (PP L xs) _ 114 27 [some (vR (some 190)), some (vI x)] [vI 0] (HS t (up m 190 0 1)) _ _
  refine ev_if0 rfl rfl (fun c27 => ?_) (fun c27 => absurd c27 (by decide))
  refine ev_go (pc' := 43) (ls' := [some (vR (some 190)), some (vI x)]) (st' := [vI 0]) (h1 := HS t (up m 190 0 1)) 1 (by rfl) ?_
  exact ev_retE rfl rfl (by first | rfl | (simp [*]; done) | (split <;> first | rfl | (exfalso; omega))) (by first | rfl | (simp [*]; done) | (split <;> first | rfl | (exfalso; omega)))
set_option maxRecDepth 10000 in
theorem m_weightX1 {L : Nat} {xs : Nat → Int32} {t : Bool × Nat × Nat} {m : mMM} {g : Nat} (hg : g < 5) (hk : m 190 2 = 0) : Ev (PP L xs) 10 114 0 (entL 2 [vR (some 190), vI ((g : Nat) : Int)]) [] (HS t m) (.inl (some (vI 0))) (HS t (up m 190 0 2)) := by
  refine ev_go (pc' := 2) (ls' := [some (vR (some 190)), some (vI ((g : Nat) : Int))]) (st' := [vI ((g : Nat) : Int), vR (some 190)]) (h1 := HS t m) 2 (by rfl) ?_
  refine ev_call rfl rfl (Nat.le_of_ble_eq_true rfl) (m_isTag1 hg) ⟨Nat.le_refl _, Nat.le_refl _⟩ ?_
  show Ev (PP L xs) _ 114 5 [some (vR (some 190)), some (vI ((g : Nat) : Int))] [vI 1, vR (some 190)] (HS t m) _ _
  refine ev_if1 rfl rfl (fun c5 => ?_) (fun c5 => absurd c5 (by decide))
  refine ev_go (pc' := 13) (ls' := [some (vR (some 190)), some (vI ((g : Nat) : Int))]) (st' := [vR (some 190), vR (some 190)]) (h1 := HS t m) 1 (by rfl) ?_
  refine ev_getIv (v := 0) rfl rfl (hk) ?_
  refine ev_if1 rfl rfl (fun c16 => absurd c16 (by decide)) (fun c16 => ?_)
  refine ev_go (pc' := 24) (ls' := [some (vR (some 190)), some (vI ((g : Nat) : Int))]) (st' := [vI 2, vR (some 190)]) (h1 := HS t m) 2 (by rfl) ?_
  refine ev_call rfl rfl (Nat.le_of_ble_eq_true rfl) (m_holds (x := 2) rfl) ⟨Nat.le_refl _, Nat.le_refl _⟩ ?_
  show Ev (PP L xs) _ 114 27 [some (vR (some 190)), some (vI ((g : Nat) : Int))] [vI 0] (HS t (up m 190 0 2)) _ _
  refine ev_if0 rfl rfl (fun c27 => ?_) (fun c27 => absurd c27 (by decide))
  refine ev_go (pc' := 43) (ls' := [some (vR (some 190)), some (vI ((g : Nat) : Int))]) (st' := [vI 0]) (h1 := HS t (up m 190 0 2)) 1 (by rfl) ?_
  exact ev_retE rfl rfl (by first | rfl | (simp [*]; done) | (split <;> first | rfl | (exfalso; omega))) (by first | rfl | (simp [*]; done) | (split <;> first | rfl | (exfalso; omega)))
set_option maxRecDepth 10000 in
theorem m_weight {L : Nat} {xs : Nat → Int32} {t : Bool × Nat × Nat} {m : mMM} {g k : Nat} {v : Int} {C : List Tx} (hM : MCR m C) (hW : WC C) (hg : g < 5) (hk : m 190 2 = (k : Int)) (hk0 : 0 < k ∧ k ≤ 6) (hv : m 190 1 = v) (hvb : 0 ≤ v ∧ v < 2147483648) : Ev (PP L xs) 10 114 0 (entL 2 [vR (some 190), vI ((g : Nat) : Int)]) [] (HS t m) (.inl (some (vI (wfF C v ((g : Nat) : Int))))) (HS t (up m 190 0 0)) := by
  refine ev_go (pc' := 2) (ls' := [some (vR (some 190)), some (vI ((g : Nat) : Int))]) (st' := [vI ((g : Nat) : Int), vR (some 190)]) (h1 := HS t m) 2 (by rfl) ?_
  refine ev_call rfl rfl (Nat.le_of_ble_eq_true rfl) (m_isTag1 hg) ⟨Nat.le_refl _, Nat.le_refl _⟩ ?_
  show Ev (PP L xs) _ 114 5 [some (vR (some 190)), some (vI ((g : Nat) : Int))] [vI 1, vR (some 190)] (HS t m) _ _
  refine ev_if1 rfl rfl (fun c5 => ?_) (fun c5 => absurd c5 (by decide))
  refine ev_go (pc' := 13) (ls' := [some (vR (some 190)), some (vI ((g : Nat) : Int))]) (st' := [vR (some 190), vR (some 190)]) (h1 := HS t m) 1 (by rfl) ?_
  refine ev_getIv (v := ((k : Nat) : Int)) rfl rfl (hk) ?_
  refine ev_if1 rfl (inI_of (by omega) (by omega)) (fun c16 => ?_) (fun c16 => absurd c16 (by omega))
  refine ev_go (pc' := 24) (ls' := [some (vR (some 190)), some (vI ((g : Nat) : Int))]) (st' := [vI 0, vR (some 190)]) (h1 := HS t m) 1 (by rfl) ?_
  refine ev_call rfl rfl (Nat.le_of_ble_eq_true rfl) (m_holds (x := 0) rfl) ⟨Nat.le_refl _, Nat.le_refl _⟩ ?_
  show Ev (PP L xs) _ 114 27 [some (vR (some 190)), some (vI ((g : Nat) : Int))] [vI 1] (HS t (up m 190 0 0)) _ _
  refine ev_if0 rfl rfl (fun c27 => absurd c27 (by decide)) (fun c27 => ?_)
  refine ev_go (pc' := 32) (ls' := [some (vR (some 190)), some (vI ((g : Nat) : Int))]) (st' := [vR (some 190), vR (some 190)]) (h1 := HS t (up m 190 0 0)) 2 (by rfl) ?_
  refine ev_getIv (v := v) rfl rfl ((up_ne2 _ _ (by decide)).trans (hv)) ?_
  refine ev_go (pc' := 36) (ls' := [some (vR (some 190)), some (vI ((g : Nat) : Int))]) (st' := [vI ((g : Nat) : Int), vI v, vR (some 190)]) (h1 := HS t (up m 190 0 0)) 1 (by rfl) ?_
  refine ev_call rfl rfl (Nat.le_of_ble_eq_true rfl) (m_weightFor hvb (by omega) (MCR_up0 0 hM) (fun x hx z hz => (hW x hx z hz).2)) ⟨Nat.le_refl _, Nat.le_refl _⟩ ?_
  show Ev (PP L xs) _ 114 39 [some (vR (some 190)), some (vI ((g : Nat) : Int))] [vI (wfF C v ((g : Nat) : Int))] (HS t (up m 190 0 0)) _ _
  refine ev_go (pc' := 43) (ls' := [some (vR (some 190)), some (vI ((g : Nat) : Int))]) (st' := [vI (wfF C v ((g : Nat) : Int))]) (h1 := HS t (up m 190 0 0)) 1 (by rfl) ?_
  exact ev_retE rfl rfl (by first | rfl | (simp [*]; done) | (split <;> first | rfl | (exfalso; omega))) (by first | rfl | (simp [*]; done) | (split <;> first | rfl | (exfalso; omega)))
set_option maxRecDepth 10000 in
theorem m_stepX1 {L : Nat} {xs : Nat → Int32} {t : Bool × Nat × Nat} {m : mMM} {x y : Int} (hI : inI x = true) (h : x < -1 ∨ 5 ≤ x) : Ev (PP L xs) 10 115 0 (entL 3 [vR (some 190), vI x, vI y]) [] (HS t m) (.inl (some (vI 0))) (HS t (up m 190 0 1)) := by
  refine ev_go (pc' := 4) (ls' := [some (vR (some 190)), some (vI x), some (vI y)]) (st' := [vI 4, vI (-1), vI x, vR (some 190)]) (h1 := HS t m) 4 (by rfl) ?_
  have hin := m_isIn (L := L) (xs := xs) (t := t) (m := m) (d := 9) (x := x) (a := (-1)) (b := 4) hI rfl rfl
  rw [if_neg (by omega)] at hin
  refine ev_call rfl rfl (Nat.le_of_ble_eq_true rfl) hin ⟨Nat.le_refl _, Nat.le_refl _⟩ ?_
  show Ev (PP L xs) _ 115 7 [some (vR (some 190)), some (vI x), some (vI y)] [vI 0, vR (some 190)] (HS t m) _ _
  refine ev_if0 rfl rfl (fun c7 => ?_) (fun c7 => absurd c7 (by decide))
  refine ev_go (pc' := 22) (ls' := [some (vR (some 190)), some (vI x), some (vI y)]) (st' := [vI 1, vR (some 190)]) (h1 := HS t m) 1 (by rfl) ?_
  refine ev_call rfl rfl (Nat.le_of_ble_eq_true rfl) (m_holds (x := 1) rfl) ⟨Nat.le_refl _, Nat.le_refl _⟩ ?_
  show Ev (PP L xs) _ 115 25 [some (vR (some 190)), some (vI x), some (vI y)] [vI 0] (HS t (up m 190 0 1)) _ _
  refine ev_if0 rfl rfl (fun c25 => ?_) (fun c25 => absurd c25 (by decide))
  refine ev_go (pc' := 38) (ls' := [some (vR (some 190)), some (vI x), some (vI y)]) (st' := [vI 0]) (h1 := HS t (up m 190 0 1)) 1 (by rfl) ?_
  exact ev_retE rfl rfl (by first | rfl | (simp [*]; done) | (split <;> first | rfl | (exfalso; omega))) (by first | rfl | (simp [*]; done) | (split <;> first | rfl | (exfalso; omega)))
set_option maxRecDepth 10000 in
theorem m_stepX2 {L : Nat} {xs : Nat → Int32} {t : Bool × Nat × Nat} {m : mMM} {x y : Int} (hx : -1 ≤ x ∧ x < 5) (hI : inI y = true) (h : y < 0 ∨ 5 ≤ y) : Ev (PP L xs) 10 115 0 (entL 3 [vR (some 190), vI x, vI y]) [] (HS t m) (.inl (some (vI 0))) (HS t (up m 190 0 1)) := by
  refine ev_go (pc' := 4) (ls' := [some (vR (some 190)), some (vI x), some (vI y)]) (st' := [vI 4, vI (-1), vI x, vR (some 190)]) (h1 := HS t m) 4 (by rfl) ?_
  have hin := m_isIn (L := L) (xs := xs) (t := t) (m := m) (d := 9) (x := x) (a := (-1)) (b := 4) (inI_of (by omega) (by omega)) rfl rfl
  rw [if_pos (by omega)] at hin
  refine ev_call rfl rfl (Nat.le_of_ble_eq_true rfl) hin ⟨Nat.le_refl _, Nat.le_refl _⟩ ?_
  show Ev (PP L xs) _ 115 7 [some (vR (some 190)), some (vI x), some (vI y)] [vI 1, vR (some 190)] (HS t m) _ _
  refine ev_if0 rfl rfl (fun c7 => absurd c7 (by decide)) (fun c7 => ?_)
  refine ev_go (pc' := 11) (ls' := [some (vR (some 190)), some (vI x), some (vI y)]) (st' := [vI y, vR (some 190)]) (h1 := HS t m) 1 (by rfl) ?_
  refine ev_call rfl rfl (Nat.le_of_ble_eq_true rfl) (m_isTag0 hI h) ⟨Nat.le_refl _, Nat.le_refl _⟩ ?_
  show Ev (PP L xs) _ 115 14 [some (vR (some 190)), some (vI x), some (vI y)] [vI 0, vR (some 190)] (HS t m) _ _
  refine ev_if0 rfl rfl (fun c14 => ?_) (fun c14 => absurd c14 (by decide))
  refine ev_go (pc' := 22) (ls' := [some (vR (some 190)), some (vI x), some (vI y)]) (st' := [vI 1, vR (some 190)]) (h1 := HS t m) 1 (by rfl) ?_
  refine ev_call rfl rfl (Nat.le_of_ble_eq_true rfl) (m_holds (x := 1) rfl) ⟨Nat.le_refl _, Nat.le_refl _⟩ ?_
  show Ev (PP L xs) _ 115 25 [some (vR (some 190)), some (vI x), some (vI y)] [vI 0] (HS t (up m 190 0 1)) _ _
  refine ev_if0 rfl rfl (fun c25 => ?_) (fun c25 => absurd c25 (by decide))
  refine ev_go (pc' := 38) (ls' := [some (vR (some 190)), some (vI x), some (vI y)]) (st' := [vI 0]) (h1 := HS t (up m 190 0 1)) 1 (by rfl) ?_
  exact ev_retE rfl rfl (by first | rfl | (simp [*]; done) | (split <;> first | rfl | (exfalso; omega))) (by first | rfl | (simp [*]; done) | (split <;> first | rfl | (exfalso; omega)))
set_option maxRecDepth 10000 in
theorem m_step {L : Nat} {xs : Nat → Int32} {t : Bool × Nat × Nat} {m : mMM} {x : Int} {h : Nat} {C : List Tx} (hM : MCR m C) (hW : WC C) (hx : -1 ≤ x ∧ x < 5) (hg : h < 5) : Ev (PP L xs) 10 115 0 (entL 3 [vR (some 190), vI x, vI ((h : Nat) : Int)]) [] (HS t m) (.inl (some (vI (woF C x ((h : Nat) : Int))))) (HS t (up m 190 0 0)) := by
  refine ev_go (pc' := 4) (ls' := [some (vR (some 190)), some (vI x), some (vI ((h : Nat) : Int))]) (st' := [vI 4, vI (-1), vI x, vR (some 190)]) (h1 := HS t m) 4 (by rfl) ?_
  have hin := m_isIn (L := L) (xs := xs) (t := t) (m := m) (d := 9) (x := x) (a := (-1)) (b := 4) (inI_of (by omega) (by omega)) rfl rfl
  rw [if_pos (by omega)] at hin
  refine ev_call rfl rfl (Nat.le_of_ble_eq_true rfl) hin ⟨Nat.le_refl _, Nat.le_refl _⟩ ?_
  show Ev (PP L xs) _ 115 7 [some (vR (some 190)), some (vI x), some (vI ((h : Nat) : Int))] [vI 1, vR (some 190)] (HS t m) _ _
  refine ev_if0 rfl rfl (fun c7 => absurd c7 (by decide)) (fun c7 => ?_)
  refine ev_go (pc' := 11) (ls' := [some (vR (some 190)), some (vI x), some (vI ((h : Nat) : Int))]) (st' := [vI ((h : Nat) : Int), vR (some 190)]) (h1 := HS t m) 1 (by rfl) ?_
  refine ev_call rfl rfl (Nat.le_of_ble_eq_true rfl) (m_isTag1 hg) ⟨Nat.le_refl _, Nat.le_refl _⟩ ?_
  show Ev (PP L xs) _ 115 14 [some (vR (some 190)), some (vI x), some (vI ((h : Nat) : Int))] [vI 1, vR (some 190)] (HS t m) _ _
  refine ev_if0 rfl rfl (fun c14 => absurd c14 (by decide)) (fun c14 => ?_)
  refine ev_go (pc' := 22) (ls' := [some (vR (some 190)), some (vI x), some (vI ((h : Nat) : Int))]) (st' := [vI 0, vR (some 190)]) (h1 := HS t m) 2 (by rfl) ?_
  refine ev_call rfl rfl (Nat.le_of_ble_eq_true rfl) (m_holds (x := 0) rfl) ⟨Nat.le_refl _, Nat.le_refl _⟩ ?_
  show Ev (PP L xs) _ 115 25 [some (vR (some 190)), some (vI x), some (vI ((h : Nat) : Int))] [vI 1] (HS t (up m 190 0 0)) _ _
  refine ev_if0 rfl rfl (fun c25 => absurd c25 (by decide)) (fun c25 => ?_)
  refine ev_go (pc' := 31) (ls' := [some (vR (some 190)), some (vI x), some (vI ((h : Nat) : Int))]) (st' := [vI ((h : Nat) : Int), vI x, vR (some 190)]) (h1 := HS t (up m 190 0 0)) 3 (by rfl) ?_
  refine ev_call rfl rfl (Nat.le_of_ble_eq_true rfl) (m_weightOf hx (by omega) (MCR_up0 0 hM) (fun x hx z hz => (hW x hx z hz).2)) ⟨Nat.le_refl _, Nat.le_refl _⟩ ?_
  show Ev (PP L xs) _ 115 34 [some (vR (some 190)), some (vI x), some (vI ((h : Nat) : Int))] [vI (woF C x ((h : Nat) : Int))] (HS t (up m 190 0 0)) _ _
  refine ev_go (pc' := 38) (ls' := [some (vR (some 190)), some (vI x), some (vI ((h : Nat) : Int))]) (st' := [vI (woF C x ((h : Nat) : Int))]) (h1 := HS t (up m 190 0 0)) 1 (by rfl) ?_
  exact ev_retE rfl rfl (by first | rfl | (simp [*]; done) | (split <;> first | rfl | (exfalso; omega))) (by first | rfl | (simp [*]; done) | (split <;> first | rfl | (exfalso; omega)))
set_option maxRecDepth 10000 in
theorem ml_texts {L : Nat} {xs : Nat → Int32} {t : Bool × Nat × Nat} {d : Nat} {m : mMM} {C : List Tx} (hM : MCR m C) : ∀ (c i : Nat) (n : Int), i + c = C.length → Ev (PP L xs) d 126 9 [some (vR (some 190)), some (vI n), some (vI ((i : Nat) : Int))] [] (HS t m) (.inl (some (vI (n + sC (fun _ => 1) (C.drop i))))) (HS t m) := by
  intro c
  induction c with
  | zero =>
    intro i n hi
    have hM2 := hM.2.1
    rw [List.drop_eq_nil_of_le (by omega), show n + sC (fun _ => 1) [] = n from Int.add_zero n]
    refine ev_go (pc' := 11) (ls' := [some (vR (some 190)), some (vI n), some (vI ((i : Nat) : Int))]) (st' := [vR (some 190), vI ((i : Nat) : Int)]) (h1 := HS t m) 2 (by rfl) ?_
    refine ev_getIv (v := ((C.length : Nat) : Int)) rfl rfl (hM.1) ?_
    refine ev_ic3 rfl (inI_of (by omega) (by omega)) (inI_of (by omega) (by omega)) (fun c14 => ?_) (fun c14 => absurd c14 (by omega))
    refine ev_go (pc' := 41) (ls' := [some (vR (some 190)), some (vI n), some (vI ((i : Nat) : Int))]) (st' := [vI n]) (h1 := HS t m) 1 (by rfl) ?_
    exact ev_retE rfl rfl rfl rfl
  | succ c IH =>
    intro i n hi
    have hM2 := hM.2.1
    have hiC : i < C.length := by omega
    have hx := (hM.2.2 i hiC).1.2.2
    rw [drop_gc hiC]
    show Ev _ _ _ _ _ _ _ (.inl (some (vI (n + ((if (gc C i).2 then 1 else 0) + sC (fun _ => 1) (C.drop (i + 1))))))) _
    rw [← Int.add_assoc]
    cases hb : (gc C i).2 with
    | true =>
      rw [hb] at hx
      have hx : m 196 i = 1 := hx
      have h := IH (i + 1) (n + 1) (by omega)
      refine ev_go (pc' := 11) (ls' := [some (vR (some 190)), some (vI n), some (vI ((i : Nat) : Int))]) (st' := [vR (some 190), vI ((i : Nat) : Int)]) (h1 := HS t m) 2 (by rfl) ?_
      refine ev_getIv (v := ((C.length : Nat) : Int)) rfl rfl (hM.1) ?_
      refine ev_ic3 rfl (inI_of (by omega) (by omega)) (inI_of (by omega) (by omega)) (fun c14 => absurd c14 (by omega)) (fun c14 => ?_)
      refine ev_go (pc' := 19) (ls' := [some (vR (some 190)), some (vI n), some (vI ((i : Nat) : Int))]) (st' := [vR (some 190), vI n]) (h1 := HS t m) 2 (by rfl) ?_
      refine ev_getR rfl rfl (rfl : rf 190 9 = some 196) ?_
      refine ev_go (pc' := 23) (ls' := [some (vR (some 190)), some (vI n), some (vI ((i : Nat) : Int))]) (st' := [vI ((i : Nat) : Int), vR (some 196), vI n]) (h1 := HS t m) 1 (by rfl) ?_
      refine ev_zaldv (k := i) (v := 1) rfl rfl rfl (by omega) (hx) ?_
      refine ev_if0 rfl rfl (fun c24 => absurd c24 (by decide)) (fun c24 => ?_)
      refine ev_go (pc' := 9) (ls' := [some (vR (some 190)), some (vI (n + 1)), some (vI ((i + 1 : Nat) : Int))]) (st' := []) (h1 := HS t m) 6 (by rfl) ?_
      exact h
    | false =>
      rw [hb] at hx
      have hx : m 196 i = 0 := hx
      have h := IH (i + 1) (n + 0) (by omega)
      refine ev_go (pc' := 11) (ls' := [some (vR (some 190)), some (vI n), some (vI ((i : Nat) : Int))]) (st' := [vR (some 190), vI ((i : Nat) : Int)]) (h1 := HS t m) 2 (by rfl) ?_
      refine ev_getIv (v := ((C.length : Nat) : Int)) rfl rfl (hM.1) ?_
      refine ev_ic3 rfl (inI_of (by omega) (by omega)) (inI_of (by omega) (by omega)) (fun c14 => absurd c14 (by omega)) (fun c14 => ?_)
      refine ev_go (pc' := 19) (ls' := [some (vR (some 190)), some (vI n), some (vI ((i : Nat) : Int))]) (st' := [vR (some 190), vI n]) (h1 := HS t m) 2 (by rfl) ?_
      refine ev_getR rfl rfl (rfl : rf 190 9 = some 196) ?_
      refine ev_go (pc' := 23) (ls' := [some (vR (some 190)), some (vI n), some (vI ((i : Nat) : Int))]) (st' := [vI ((i : Nat) : Int), vR (some 196), vI n]) (h1 := HS t m) 1 (by rfl) ?_
      refine ev_zaldv (k := i) (v := 0) rfl rfl rfl (by omega) (hx) ?_
      refine ev_if0 rfl rfl (fun c24 => ?_) (fun c24 => absurd c24 (by decide))
      refine ev_go (pc' := 9) (ls' := [some (vR (some 190)), some (vI (n + 0)), some (vI ((i + 1 : Nat) : Int))]) (st' := []) (h1 := HS t m) 5 (by rfl) ?_
      exact h
set_option maxRecDepth 10000 in
theorem m_texts {L : Nat} {xs : Nat → Int32} {t : Bool × Nat × Nat} {m : mMM} {C : List Tx} (hM : MCR m C) : Ev (PP L xs) 10 126 0 (entL 3 [vR (some 190)]) [] (HS t m) (.inl (some (vI (sC (fun _ => 1) C)))) (HS t (up m 190 0 0)) := by
  refine ev_go (pc' := 2) (ls' := [some (vR (some 190)), none, none]) (st' := [vI 0, vR (some 190)]) (h1 := HS t m) 2 (by rfl) ?_
  refine ev_putI rfl rfl ?_
  refine ev_go (pc' := 9) (ls' := [some (vR (some 190)), some (vI 0), some (vI 0)]) (st' := []) (h1 := HS t (up m 190 0 0)) 4 (by rfl) ?_
  have h := ml_texts (L := L) (xs := xs) (t := t) (d := 10) (MCR_up0 0 hM) C.length 0 0 (by omega)
  rw [Int.zero_add, List.drop_zero] at h
  exact h
