/-! ===== class and model side by side: the questions ===== -/
section OPS
variable {L : Nat} {xs : Nat → Int32} {t : Bool × Nat × Nat} {m : mMM} {w : Int} {k : Nat} {C : List Tx} {D : List (Int × Nat)} {S : List (Int × Int)}
theorem RA_q {m1 m2 : mMM} (hA : RA m w k C D S) (h1 : ∀ b j, b ≤ 77 → m1 b j = m b j) (hL : LB9 m1) (h2 : ∀ b j, b < 190 → m2 b j = m1 b j) (h3 : ∀ b j, 190 ≤ b → b ≤ 198 → (b ≠ 190 ∨ j = 1 ∨ j = 2 ∨ j = 5 ∨ j = 10 ∨ j = 13) → m2 b j = m b j) : RA m2 w k C D S :=
  ⟨RX_fr (fun b j hb => (h2 b j (by omega)).trans (h1 b j hb)) (LB9_fr (fun b j _ hb => h2 b j (by omega)) hL) hA.1, RMo_fr h3 hA.2.1, hA.2.2⟩
theorem RMo_mm {m1 : mMM} {v : Int} (hM : RMo m w k C D S) (h : ∀ b j, 190 ≤ b → m1 b j = m b j) : RMo (up m1 204 0 v) w k C D S :=
  RMo_fr (fun b j x y _ => by rw [up_ne1 _ _ (by omega)]; exact h b j x) hM
theorem pathM_in (C : List Tx) (S : List (Int × Int)) (k p : Nat) : inI (spPathM C S k p) = true := by
  unfold spPathM
  split
  · have h := Nat.mod_lt ((gl (LSM C S) k).2.toNat / 5 ^ (S.length - 1 - p)) (show 0 < 5 by decide)
    exact inI_of (by omega) (by omega)
  · rfl
theorem dbF_bd : ∀ c w, 0 ≤ dbF c w ∧ dbF c w ≤ (c : Int)
  | 0, _ => ⟨Int.le_refl 0, Int.le_refl 0⟩
  | c + 1, w => by
    have h := dbF_bd c (w + w)
    show 0 ≤ (if w ≤ 1152921504606846975 then 1 + dbF c (w + w) else 0) ∧ (if w ≤ 1152921504606846975 then 1 + dbF c (w + w) else 0) ≤ ((c + 1 : Nat) : Int)
    split <;> omega
theorem share_in {C : List Tx} (hC : VC C) {S : List (Int × Int)} (hS : VS S) (h5 : S.length ≤ 5) (p g : Nat) : inI (spShare C S p g) = true := by
  have h1 := PS_bd (AB_s hC S) h5 (S.length - 1 - p) g
  have h2 := TOT_pos hC hS
  have h3 : sumR (5 ^ S.length) (wt (sA0 C S) (sAA C S) S.length) = TOT C S := rfl
  rw [h3] at h1
  unfold spShare
  generalize PS (sA0 C S) (sAA C S) S.length (S.length - 1 - p) g = P at *
  generalize TOT C S = T at *
  rw [Int.tdiv_eq_ediv_of_nonneg (by omega)]
  have h4 : 0 ≤ 1000 * P / T := Int.ediv_nonneg (by omega) (by omega)
  have h5 : 1000 * P / T ≤ 1000 := Int.ediv_le_of_le_mul h2 (by omega)
  exact inI_of (by omega) (by omega)
theorem SBDs (hX : RX m w k C D S) (hC : VC C) : SBD m := SBD_of hC hX.2.1
theorem hW_of (hV : VC C) : ∀ i, i < C.length → WT (gc C i).1 := fun i hi => (hV.2 _ (gc_mem hi)).2.2
theorem op_weight (hA : RA m w k C D S) {c : Int} (hc : inI c = true) : OPG L xs t m 133 (entL 4 [vR (some 1), vI c, vR (some 204)]) 114 (entL 2 [vR (some 190), vI c]) vI := by
  have hA0 := hA
  obtain ⟨hX, hM, hV⟩ := hA
  have ht := hX.1
  by_cases hg : c < 0 ∨ 5 ≤ c
  · exact opg_thr hA0 (Or.inl rfl) (lx_weight (x_weightX2 hg hc) rfl) (m_weightX2 hg hc)
  obtain ⟨g, rfl⟩ := Int.eq_ofNat_of_zero_le (show 0 ≤ c by omega)
  have hg5 : g < 5 := by omega
  by_cases hk0 : k = 0
  · exact opg_thr hA0 (Or.inr rfl) (lx_weight (x_weightX1 hg5 (by rw [ht.2, hk0]; rfl)) rfl) (m_weightX1 hg5 (by rw [hM.1.2, hk0]; rfl))
  have hk6 := hV.1.2
  have hwb := VWk_bd hV.1.1
  have hVw := VWk_d hV.1.1 (by omega)
  have hC := hV.2.2.1.1
  obtain ⟨m1, h1, hF⟩ := x_weight0 (L := L) (xs := xs) (t := t) (m := m) hg5 (by rw [ht.2]; omega) (by rw [ht.1]; omega) (by rw [ht.1]; omega) (hW_of hC) (fun w' k' _ => ⟨(foW_bd hC w' k').1, by have := (foW_bd hC w' k').2; omega⟩) hX.2.1.1
  rw [ht.1, ← weight_eq hV.2.2.1.2 hVw] at h1
  have hin : inI (wfF C (cv w) (g : Int)) = true := wfF_in hM.2.2.1 _ _
  have h2 := lo_weight h1 hin
  have hMm : RMo (up m1 204 0 (wfF C (cv w) (g : Int))) w k C D S := RMo_mm hM (fun b j hb => hF b j (by omega))
  have h3 := m_weight (L := L) (xs := xs) (t := t) hMm.2.2.1 hV.2.2.1.2 hg5 hMm.1.2 (by omega) hMm.1.1 (cv_bd w)
  refine opg_ok h2 h3 (up_eq _ _ _ _) ?_ hin (RA_q (m1 := m1) hA0 (fun b j hb => hF b j (by omega)) (LB9_fr (fun b j x y => hF b j (by omega)) hX.2.2.2) (fun b j hb => ?_) (fun b j x y z => ?_))
  · rw [up_ne1 _ _ (by decide), up_eq]
  · repeat rw [up_ne _ _ (by omega)]
  · repeat rw [up_ne _ _ (by omega)]
    exact hF b j (by omega)
theorem op_step (hA : RA m w k C D S) {c e : Int} (hc : inI c = true) (he : inI e = true) : OPG L xs t m 134 (entL 5 [vR (some 1), vI c, vI e, vR (some 204)]) 115 (entL 3 [vR (some 190), vI c, vI e]) vI := by
  have hA0 := hA
  obtain ⟨hX, hM, hV⟩ := hA
  by_cases h : c < -1 ∨ 5 ≤ c
  · exact opg_thr hA0 (Or.inl rfl) (lx_step (x_stepX1 hc h) rfl) (m_stepX1 hc h)
  by_cases h2 : e < 0 ∨ 5 ≤ e
  · refine opg_thr hA0 (Or.inl rfl) (lx_step (E := 2) ?_ rfl) (m_stepX2 (by omega) he h2)
    by_cases h3 : c = -1
    · subst h3; exact x_stepX2 he h2
    · obtain ⟨g, rfl⟩ := Int.eq_ofNat_of_zero_le (show 0 ≤ c by omega)
      exact x_stepX3 (by omega) he h2
  obtain ⟨q, rfl⟩ := Int.eq_ofNat_of_zero_le (show 0 ≤ e by omega)
  have hq5 : q < 5 := by omega
  have hC := hV.2.2.1.1
  have hin : inI (woF C c (q : Int)) = true := woF_in hM.2.2.1 _ _
  have h1 : Ev (PP L xs) 9 70 0 (entL 3 [vR (some 1), vI c, vI (q : Int)]) [] (HS t m) (.inl (some (vI (woF C c (q : Int))))) (HS t m) := by
    by_cases h3 : c = -1
    · subst h3
      have e5 := hX.2.1.2.2.2.2.1 q hq5
      have hb := fs_bd hC q
      have h4 := x_stepN (L := L) (xs := xs) (t := t) (m := m) hq5 (by rw [e5]; omega) (by rw [e5]; omega)
      rw [e5, ← wo_first hC q] at h4; exact h4
    · obtain ⟨g, rfl⟩ := Int.eq_ofNat_of_zero_le (show 0 ≤ c by omega)
      have e5 : m (7 + g) q = sC (prN g q) C := hX.2.1.2.2.2.2.2 g (by omega) q hq5
      have hb := pr_bd hC g q
      have h4 := x_stepG (L := L) (xs := xs) (t := t) (m := m) (g := g) (h := q) (by omega) hq5 (by rw [e5]; omega) (by rw [e5]; omega)
      rw [e5, ← wo_pair hC g q] at h4; exact h4
  have h2 := lo_step h1 hin
  have hMm : RMo (up m 204 0 (woF C c (q : Int))) w k C D S := RMo_mm hM (fun _ _ _ => rfl)
  have h3 := m_step (L := L) (xs := xs) (t := t) hMm.2.2.1 hV.2.2.1.2 (show -1 ≤ c ∧ c < 5 by omega) hq5
  refine opg_ok h2 h3 (up_eq _ _ _ _) ?_ hin (RA_q (m1 := m) hA0 (fun _ _ _ => rfl) hX.2.2.2 (fun b j hb => ?_) (fun b j x y z => ?_))
  · rw [up_ne1 _ _ (by decide), up_eq]
  · repeat rw [up_ne _ _ (by omega)]
  · repeat rw [up_ne _ _ (by omega)]
theorem op_path (hA : RA m w k C D S) {c e : Int} (hc : inI c = true) (he : inI e = true) : OPG L xs t m 135 (entL 5 [vR (some 1), vI c, vI e, vR (some 204)]) 118 (entL 3 [vR (some 190), vI c, vI e]) vI := by
  have hA0 := hA
  obtain ⟨hX, hM, hV⟩ := hA
  have hs := hX.2.2.1
  have hs2 := hM.2.2.2
  by_cases h : c < 0 ∨ 10 ≤ c
  · refine opg_thr hA0 (Or.inl rfl) (lx_path (E := 2) ?_ rfl) (m_pathX1 hc h)
    by_cases h2 : e < 0 ∨ (S.length : Int) ≤ e
    · exact x_pathX1 hs he h2
    · obtain ⟨p, rfl⟩ := Int.eq_ofNat_of_zero_le (show 0 ≤ e by omega)
      exact x_pathX2 hs (by omega) hc h
  obtain ⟨r, rfl⟩ := Int.eq_ofNat_of_zero_le (show 0 ≤ c by omega)
  by_cases h2 : e < 0 ∨ (S.length : Int) ≤ e
  · exact opg_thr hA0 (Or.inl rfl) (lx_path (x_pathX1 hs he h2) rfl) (m_pathX2 hs2 (by omega) he h2)
  obtain ⟨p, rfl⟩ := Int.eq_ofNat_of_zero_le (show 0 ≤ e by omega)
  have hp : p < S.length := by omega
  have hC := hV.2.2.1.1
  obtain ⟨m1, h1, hL, hF⟩ := x_path (L := L) (xs := xs) (t := t) (k := r) (p := p) hC hV.2.2.2.1 hX.2.1 hs hX.2.2.2 (by omega) hp
  rw [path_eq hp] at h1
  have hin := pathM_in C S r p
  have h3 := lo_path h1 hin
  have hMm : RMo (up m1 204 0 (spPathM C S r p)) w k C D S := RMo_mm hM (fun b j hb => hF b j (by omega))
  obtain ⟨m2, h4, h5, h6⟩ := m_path (L := L) (xs := xs) (t := t) (k := r) (p := p) hC hV.2.2.1.2 hV.2.2.2.1 hV.2.2.2.2 hMm.2.2.1 hMm.2.2.2 (by omega) hp
  refine opg_ok h3 h4 h5 ?_ hin (RA_q (m1 := m1) hA0 (fun b j hb => hF b j (by omega)) hL (fun b j hb => ?_) (fun b j x y z => ?_))
  · rw [h6 204 0 (by omega) (by omega), up_eq]
  · rw [h6 b j (by omega) (by omega), up_ne1 _ _ (by omega)]
  · rw [h6 b j (by omega) (by omega), up_ne1 _ _ (by omega)]; exact hF b j (by omega)
theorem op_pathAnew (hA : RA m w k C D S) {c e : Int} (hc : inI c = true) (he : inI e = true) : OPG L xs t m 136 (entL 5 [vR (some 1), vI c, vI e, vR (some 204)]) 119 (entL 3 [vR (some 190), vI c, vI e]) vI := by
  have hA0 := hA
  obtain ⟨hX, hM, hV⟩ := hA
  have hs := hX.2.2.1
  have hs2 := hM.2.2.2
  by_cases h : c < 0 ∨ 10 ≤ c
  · refine opg_thr hA0 (Or.inl rfl) (lx_pathAnew (E := 2) ?_ rfl) (m_pathAnewX1 hc h)
    by_cases h2 : e < 0 ∨ (S.length : Int) ≤ e
    · exact x_pathAnewX1 hs he h2
    · obtain ⟨p, rfl⟩ := Int.eq_ofNat_of_zero_le (show 0 ≤ e by omega)
      exact x_pathAnewX2 hs (by omega) hc h
  obtain ⟨r, rfl⟩ := Int.eq_ofNat_of_zero_le (show 0 ≤ c by omega)
  by_cases h2 : e < 0 ∨ (S.length : Int) ≤ e
  · exact opg_thr hA0 (Or.inl rfl) (lx_pathAnew (x_pathAnewX1 hs he h2) rfl) (m_pathAnewX2 hs2 (by omega) he h2)
  obtain ⟨p, rfl⟩ := Int.eq_ofNat_of_zero_le (show 0 ≤ e by omega)
  have hp : p < S.length := by omega
  have hC := hV.2.2.1.1
  obtain ⟨m1, h1, hL, hF⟩ := x_pathAnew (L := L) (xs := xs) (t := t) (k := r) (p := p) hC hV.2.2.2.1 hX.2.1 hs hX.2.2.2 (by omega) hp
  rw [path_eq hp] at h1
  have hin := pathM_in C S r p
  have h3 := lo_pathAnew h1 hin
  have hMm : RMo (up m1 204 0 (spPathM C S r p)) w k C D S := RMo_mm hM (fun b j hb => hF b j (by omega))
  obtain ⟨m2, h4, h5, h6⟩ := m_pathAnew (L := L) (xs := xs) (t := t) (k := r) (p := p) hC hV.2.2.1.2 hV.2.2.2.1 hV.2.2.2.2 hMm.2.2.1 hMm.2.2.2 (by omega) hp
  refine opg_ok h3 h4 h5 ?_ hin (RA_q (m1 := m1) hA0 (fun b j hb => hF b j (by omega)) hL (fun b j hb => ?_) (fun b j x y z => ?_))
  · rw [h6 204 0 (by omega) (by omega), up_eq]
  · rw [h6 b j (by omega) (by omega), up_ne1 _ _ (by omega)]
  · rw [h6 b j (by omega) (by omega), up_ne1 _ _ (by omega)]; exact hF b j (by omega)
theorem op_share (hA : RA m w k C D S) {c e : Int} (hc : inI c = true) (he : inI e = true) : OPG L xs t m 139 (entL 5 [vR (some 1), vI c, vI e, vR (some 204)]) 124 (entL 3 [vR (some 190), vI c, vI e]) vI := by
  have hA0 := hA
  obtain ⟨hX, hM, hV⟩ := hA
  have hs := hX.2.2.1
  have hs2 := hM.2.2.2
  by_cases h : c < 0 ∨ (S.length : Int) ≤ c
  · exact opg_thr hA0 (Or.inl rfl) (lx_share (x_shareX1 hs hc h) rfl) (m_shareX1 hs2 hc h)
  obtain ⟨p, rfl⟩ := Int.eq_ofNat_of_zero_le (show 0 ≤ c by omega)
  have hp : p < S.length := by omega
  by_cases h2 : e < 0 ∨ 5 ≤ e
  · exact opg_thr hA0 (Or.inl rfl) (lx_share (x_shareX2 hs hp he h2) rfl) (m_shareX2 hs2 hp he h2)
  obtain ⟨g, rfl⟩ := Int.eq_ofNat_of_zero_le (show 0 ≤ e by omega)
  have hg : g < 5 := by omega
  have hC := hV.2.2.1.1
  obtain ⟨m1, h1, hL, hF⟩ := x_share (L := L) (xs := xs) (t := t) (p := p) (g := g) hC hV.2.2.2.1 hX.2.1 hs hX.2.2.2 hp hg
  have hin := share_in hC hV.2.2.2.1 hs.2.1 p g
  have h3 := lo_share h1 hin
  have hMm : RMo (up m1 204 0 (spShare C S p g)) w k C D S := RMo_mm hM (fun b j hb => hF b j (by omega))
  obtain ⟨m2, h4, h5, h6⟩ := m_share (L := L) (xs := xs) (t := t) (p := p) (g := g) hC hV.2.2.1.2 hV.2.2.2.1 hV.2.2.2.2 hMm.2.2.1 hMm.2.2.2 hp hg
  refine opg_ok h3 h4 h5 ?_ hin (RA_q (m1 := m1) hA0 (fun b j hb => hF b j (by omega)) hL (fun b j hb => ?_) (fun b j x y z => ?_))
  · rw [h6 204 0 (by omega) (by omega), up_eq]
  · rw [h6 b j (by omega) (by omega), up_ne1 _ _ (by omega)]
  · rw [h6 b j (by omega) (by omega), up_ne1 _ _ (by omega)]; exact hF b j (by omega)
theorem op_shareAnew (hA : RA m w k C D S) {c e : Int} (hc : inI c = true) (he : inI e = true) : OPG L xs t m 140 (entL 5 [vR (some 1), vI c, vI e, vR (some 204)]) 125 (entL 3 [vR (some 190), vI c, vI e]) vI := by
  have hA0 := hA
  obtain ⟨hX, hM, hV⟩ := hA
  have hs := hX.2.2.1
  have hs2 := hM.2.2.2
  by_cases h : c < 0 ∨ (S.length : Int) ≤ c
  · exact opg_thr hA0 (Or.inl rfl) (lx_shareAnew (x_shareAnewX1 hs hc h) rfl) (m_shareAnewX1 hs2 hc h)
  obtain ⟨p, rfl⟩ := Int.eq_ofNat_of_zero_le (show 0 ≤ c by omega)
  have hp : p < S.length := by omega
  by_cases h2 : e < 0 ∨ 5 ≤ e
  · exact opg_thr hA0 (Or.inl rfl) (lx_shareAnew (x_shareAnewX2 hs hp he h2) rfl) (m_shareAnewX2 hs2 hp he h2)
  obtain ⟨g, rfl⟩ := Int.eq_ofNat_of_zero_le (show 0 ≤ e by omega)
  have hg : g < 5 := by omega
  have hC := hV.2.2.1.1
  obtain ⟨m1, h1, hL, hF⟩ := x_shareAnew (L := L) (xs := xs) (t := t) (p := p) (g := g) hC hV.2.2.2.1 hX.2.1 hs hX.2.2.2 hp hg
  have hin := share_in hC hV.2.2.2.1 hs.2.1 p g
  have h3 := lo_shareAnew h1 hin
  have hMm : RMo (up m1 204 0 (spShare C S p g)) w k C D S := RMo_mm hM (fun b j hb => hF b j (by omega))
  obtain ⟨m2, h4, h5, h6⟩ := m_shareAnew (L := L) (xs := xs) (t := t) (p := p) (g := g) hC hV.2.2.1.2 hV.2.2.2.1 hV.2.2.2.2 hMm.2.2.1 hMm.2.2.2 hp hg
  refine opg_ok h3 h4 h5 ?_ hin (RA_q (m1 := m1) hA0 (fun b j hb => hF b j (by omega)) hL (fun b j hb => ?_) (fun b j x y z => ?_))
  · rw [h6 204 0 (by omega) (by omega), up_eq]
  · rw [h6 b j (by omega) (by omega), up_ne1 _ _ (by omega)]
  · rw [h6 b j (by omega) (by omega), up_ne1 _ _ (by omega)]; exact hF b j (by omega)
theorem op_product (hA : RA m w k C D S) {c : Int} (hc : inI c = true) : OPG L xs t m 137 (entL 4 [vR (some 1), vI c, vR (some 204)]) 121 (entL 2 [vR (some 190), vI c]) vJ := by
  have hA0 := hA
  obtain ⟨hX, hM, hV⟩ := hA
  have hs := hX.2.2.1
  have hs2 := hM.2.2.2
  by_cases h : c < 0 ∨ 10 ≤ c
  · exact opg_thr hA0 (Or.inl rfl) (lx_product (x_productX2 hc h) rfl) (m_productX2 hc h)
  obtain ⟨r, rfl⟩ := Int.eq_ofNat_of_zero_le (show 0 ≤ c by omega)
  by_cases h0 : S.length = 0
  · exact opg_thr hA0 (Or.inr rfl) (lx_product (x_productX1 (by omega) (by rw [hs.1, h0]; rfl)) rfl) (m_productX1 (by omega) (by rw [hs2.1, h0]; rfl))
  have hC := hV.2.2.1.1
  obtain ⟨m1, h1, hL, hF⟩ := x_product (L := L) (xs := xs) (t := t) (k := r) hC hV.2.2.2.1 hX.2.1 hs hX.2.2.2 (by omega) (by omega)
  have hb := spProd_bd hC hs.2.1 r
  rw [prod_eq] at h1 hb
  have hin : inI (spProdM C S r) = true := inI_of (by omega) (by omega)
  have h3 := lo_product h1
  have hMm : RMo (up m1 204 0 (spProdM C S r)) w k C D S := RMo_mm hM (fun b j hb => hF b j (by omega))
  obtain ⟨m2, h4, h5, h6⟩ := m_product (L := L) (xs := xs) (t := t) (k := r) hC hV.2.2.1.2 hV.2.2.2.1 hV.2.2.2.2 hMm.2.2.1 hMm.2.2.2 (by omega) (by omega)
  refine opg_ok h3 h4 h5 ?_ hin (RA_q (m1 := m1) hA0 (fun b j hb => hF b j (by omega)) hL (fun b j hb => ?_) (fun b j x y z => ?_))
  · rw [h6 204 0 (by omega) (by omega), up_eq]
  · rw [h6 b j (by omega) (by omega), up_ne1 _ _ (by omega)]
  · rw [h6 b j (by omega) (by omega), up_ne1 _ _ (by omega)]; exact hF b j (by omega)
theorem op_cost (hA : RA m w k C D S) : OPG L xs t m 138 (entL 3 [vR (some 1), vR (some 204)]) 122 (entL 4 [vR (some 190)]) vI := by
  have hA0 := hA
  obtain ⟨hX, hM, hV⟩ := hA
  have hs := hX.2.2.1
  have hs2 := hM.2.2.2
  by_cases h0 : S.length = 0
  · exact opg_thr hA0 (Or.inl rfl) (lx_cost (x_costX1 (by rw [hs.1, h0]; rfl)) rfl) (m_costX1 (by rw [hs2.1, h0]; rfl))
  have hC := hV.2.2.1.1
  obtain ⟨m1, h1, hL, hF⟩ := x_cost (L := L) (xs := xs) (t := t) hC hV.2.2.2.1 hX.2.1 hs hX.2.2.2 (by omega)
  have hb := prod_pos hC hV.2.2.2.1 hs.2.1
  rw [prod_eq] at h1 hb
  have hd := dbF_bd 60 (spProdM C S 0)
  have hin : inI (dbF 60 (spProdM C S 0)) = true := inI_of (by omega) (by omega)
  have h3 := lo_cost h1 hin
  have hMm : RMo (up m1 204 0 (dbF 60 (spProdM C S 0))) w k C D S := RMo_mm hM (fun b j hb => hF b j (by omega))
  obtain ⟨m2, h4, h5, h6⟩ := m_cost (L := L) (xs := xs) (t := t) hC hV.2.2.1.2 hV.2.2.2.1 hV.2.2.2.2 hMm.2.2.1 hMm.2.2.2 (by omega) hb
  refine opg_ok h3 h4 h5 ?_ hin (RA_q (m1 := m1) hA0 (fun b j hb => hF b j (by omega)) hL (fun b j hb => ?_) (fun b j x y z => ?_))
  · rw [h6 204 0 (by omega) (by omega), up_eq]
  · rw [h6 b j (by omega) (by omega), up_ne1 _ _ (by omega)]
  · rw [h6 b j (by omega) (by omega), up_ne1 _ _ (by omega)]; exact hF b j (by omega)
/-- the two calls that throw nothing, as the law makes them -/
def OPD (L : Nat) (xs : Nat → Int32) (t : Bool × Nat × Nat) (m : mMM) (jx : Nat) (wa : mLS) (jm : Nat) (ma : mLS) : Prop :=
  ∃ (v : Int) (m1 m2 : mMM) (w : Int) (k : Nat) (C : List Tx) (D : List (Int × Nat)) (S : List (Int × Int)), Ev (PP L xs) 10 jx 0 wa [] (HS t m) (.inl (some (vI v))) (HS t m1) ∧ Ev (PP L xs) 10 jm 0 ma [] (HS t m1) (.inl (some (vI v))) (HS t m2) ∧ inI v = true ∧ RA m2 w k C D S
theorem op_clear (hA : RA m w k C D S) : OPD L xs t m 67 (entL 1 [vR (some 1)]) 103 (entL 2 [vR (some 190)]) := by
  obtain ⟨hX, hM, hV⟩ := hA
  have hs := hX.2.2.1
  have hs2 := hM.2.2.2
  have h1 := x_clear10 (L := L) (xs := xs) (t := t) (m := m)
  rw [hs.1] at h1
  have h2 := m_clear (L := L) (xs := xs) (t := t) (m := up m 75 2 0)
  rw [up_ne1 (b := 190) _ _ (by decide), hs2.1] at h2
  refine ⟨_, _, _, w, k, C, D, [], h1, h2, inI_of (by omega) (by have := hs.2.1; omega), ⟨⟨?_, ?_⟩, RC_fr (fun b j x y => ?_) hX.2.1, ⟨?_, Nat.zero_le _, fun i hi => absurd hi (Nat.not_lt_zero i)⟩, LB9_fr (fun b j x y => ?_) hX.2.2.2⟩, ⟨⟨?_, ?_⟩, MDR_fr ?_ (fun b j hb => ?_) hM.2.1, MCR_hi (fun b j x => ?_) hM.2.2.1, ⟨?_, Nat.zero_le _, fun i hi => absurd hi (Nat.not_lt_zero i)⟩⟩, hV.1, hV.2.1, hV.2.2.1, fun x hx => absurd hx List.not_mem_nil, fun x hx => absurd hx List.not_mem_nil⟩
  · repeat rw [up_ne _ _ (by omega)]
    exact hX.1.1
  · repeat rw [up_ne _ _ (by omega)]
    exact hX.1.2
  · repeat rw [up_ne _ _ (by omega)]
  · repeat rw [up_ne _ _ (by omega)]
    rw [up_eq]; rfl
  · repeat rw [up_ne _ _ (by omega)]
  · repeat rw [up_ne _ _ (by omega)]
    exact hM.1.1
  · repeat rw [up_ne _ _ (by omega)]
    exact hM.1.2
  · repeat rw [up_ne _ _ (by omega)]
  · repeat rw [up_ne _ _ (by omega)]
  · repeat rw [up_ne _ _ (by omega)]
  · rw [up_eq]; rfl
theorem op_texts (hA : RA m w k C D S) : OPD L xs t m 77 (entL 1 [vR (some 1)]) 126 (entL 3 [vR (some 190)]) := by
  have h1 := x_texts10 (L := L) (xs := xs) (t := t) (m := m)
  rw [hA.1.2.1.2.2.2.1] at h1
  have h2 := m_texts (L := L) (xs := xs) (t := t) hA.2.1.2.2.1
  have hb := sC_bd (fun _ => 1) 1 (by decide) C (fun _ _ => ⟨by decide, by decide⟩)
  have h20 := hA.2.1.2.2.1.2.1
  exact ⟨_, _, _, w, k, C, D, S, h1, h2, inI_of (by omega) (by omega), RA_thr 0 hA⟩
end OPS
