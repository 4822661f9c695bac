/-! ===== class and model side by side: add, text, word, clear, lock ===== -/
section OPS
variable {L : Nat} {xs : Nat → Int32} {t : Bool × Nat × Nat} {m : mMM} {w : Int} {k : Nat} {C : List Tx} {D : List (Int × Nat)} {S : List (Int × Int)}
theorem gt0_lt {D : List (Int × Nat)} (h : ∀ z, z ∈ D → VWd z.1 ∧ z.2 < 5) (h0 : 0 < D.length) : (gt D 0).2 < 5 := (h _ (gt_mem h0)).2
theorem op_add (hA : RA m w k C D S) : OPG L xs t m 129 (entL 3 [vR (some 1), vR (some 204)]) 100 (entL 2 [vR (some 190)]) vI := by
  obtain ⟨hX, hM, hV⟩ := hA
  have hC := hX.2.1
  have hn := hC.1.1
  have hn20 := hC.1.2.1
  have hz := hC.2.1.1.1
  have hd6 := hV.2.1.1
  by_cases hd : D.length = 0
  · exact opg_thr ⟨hX, hM, hV⟩ (Or.inl rfl) (lx_add (x_addX1 hn hn20 (by rw [hz, hd]; rfl)) rfl) (m_addX1 (by rw [hM.2.1.1, hd]; rfl))
  by_cases h20 : C.length = 20
  · exact opg_thr ⟨hX, hM, hV⟩ (Or.inl rfl) (lx_add (x_addX2 hn h20 hz hd6 (by omega)) rfl) (m_addX2 hM.2.1.1 (by omega) (by rw [hM.2.2.1.1, h20]; rfl))
  have hc20 : C.length < 20 := by omega
  have e12 : tx C.length = 12 + 3 * C.length := rfl
  have hg0 := gt0_lt hV.2.1.2 (by omega)
  obtain ⟨m1, hE1, hs1, hF1⟩ := x_add0 (L := L) (xs := xs) (t := t) hn hc20 (by omega) (WT_of hV.2.1.2) hC.2.1.1 hC.2.2.2.2.2 hC.2.1.2
  have hRC := RC_add hC hc20 hg0 hs1 hF1
  have hG1 : ∀ b j, (b = 2 ∨ 75 ≤ b) → m1 b j = m b j := fun b j hb => by
    rw [hF1 b j (by omega), up_ne1 _ _ (by omega), up_ne1 _ _ (by omega), up_ne1 _ _ (by omega), up_ne1 _ _ (by omega)]
  have h2 := lo_add hE1 (inI_of (by omega) (by omega))
  have hG : ∀ b j, 190 ≤ b → b ≠ 204 → up m1 204 0 (C.length : Int) b j = m b j := fun b j hb h4 => by rw [up_ne1 _ _ h4, hG1 b j (by omega)]
  obtain ⟨m3, h3, h4, h5⟩ := m_add0 (L := L) (xs := xs) (t := t) (m := up m1 204 0 (C.length : Int)) (n := C.length) (z := D.length) (by rw [hG _ _ (by decide) (by decide)]; exact hM.2.2.1.1) hc20 (by rw [hG _ _ (by decide) (by decide)]; exact hM.2.1.1) (by omega)
  have hl : (C ++ [(D, true)]).length = C.length + 1 := by rw [List.length_append]; rfl
  have h5b : ∀ b j, b ≠ 193 → b ≠ 194 → b ≠ 190 → m3 b j = up m1 204 0 (C.length : Int) b j := fun b j x y z => by
    rw [h5 b j (Or.inl ⟨x, y⟩), up_ne1 _ _ z]
  have h5c : ∀ j, j ≠ 0 → m3 190 j = m 190 j := fun j hj => by
    rw [h5 190 j (Or.inl ⟨by decide, by decide⟩), up_ne2 _ _ hj, hG _ _ (by decide) (by decide)]
  refine opg_ok (w' := w) (k' := k) (C' := C ++ [(D, true)]) (D' := []) (S' := S) h2 h3 ?_ ?_ (inI_of (by omega) (by omega)) ⟨⟨⟨?_, ?_⟩, RC_fr (fun b j x y => ?_) hRC, RS_fr (fun b j x y => ?_) hX.2.2.1, LB9_fr (fun b j x y => ?_) hX.2.2.2⟩, ⟨⟨?_, ?_⟩, ⟨?_, fun i hi => absurd hi (Nat.not_lt_zero i)⟩, ⟨?_, by rw [hl]; omega, fun i hi => ?_⟩, MSR_fr ?_ (fun b j hb => ?_) hM.2.2.2⟩, hV.1, ⟨Nat.zero_le _, fun z hz => absurd hz List.not_mem_nil⟩, ⟨⟨by rw [hl]; omega, fun x hx => ?_⟩, fun x hx => ?_⟩, hV.2.2.2⟩
  · repeat rw [up_ne _ _ (by omega)]
    rw [h5 190 0 (Or.inl ⟨by decide, by decide⟩), up_eq]
  · repeat rw [up_ne _ _ (by omega)]
    rw [h5b 204 0 (by decide) (by decide) (by decide), up_eq]
  · repeat rw [up_ne _ _ (by omega)]
    rw [h5b 2 0 (by decide) (by decide) (by decide), up_ne1 _ _ (by decide), hG1 2 0 (Or.inl rfl)]; exact hX.1.1
  · repeat rw [up_ne _ _ (by omega)]
    rw [h5b 2 1 (by decide) (by decide) (by decide), up_ne1 _ _ (by decide), hG1 2 1 (Or.inl rfl)]; exact hX.1.2
  · repeat rw [up_ne _ _ (by omega)]
    rw [h5b b j (by omega) (by omega) (by omega), up_ne1 _ _ (by omega)]
  · repeat rw [up_ne _ _ (by omega)]
    rw [h5b b j (by omega) (by omega) (by omega), up_ne1 _ _ (by omega), hG1 b j (by omega)]
  · repeat rw [up_ne _ _ (by omega)]
    rw [h5b b j (by omega) (by omega) (by omega), up_ne1 _ _ (by omega), hG1 b j (by omega)]
  · repeat rw [up_ne _ _ (by omega)]
    rw [h5c 1 (by decide)]; exact hM.1.1
  · repeat rw [up_ne _ _ (by omega)]
    rw [h5c 2 (by decide)]; exact hM.1.2
  · rw [up_ne2 _ _ (by decide), up_eq]; rfl
  · rw [up_eq, hl]
  · rw [hl] at hi
    by_cases c0 : i = C.length
    · subst c0
      rw [gc_last]
      refine ⟨⟨?_, hd6, ?_⟩, fun j hj => ?_⟩
      · rw [up_ne1 _ _ (by decide), up_ne1 _ _ (by decide), up_ne1 _ _ (by decide), up_eq]
      · rw [up_ne1 _ _ (by decide), up_ne1 _ _ (by decide), up_eq]; rfl
      · have hx := h4 j hj
        have hy := hM.2.1.2 j hj
        refine ⟨?_, ?_⟩
        · repeat rw [up_ne _ _ (by omega)]
          rw [hx.1, hG _ _ (by decide) (by decide)]; exact hy.1
        · repeat rw [up_ne _ _ (by omega)]
          rw [hx.2, hG _ _ (by decide) (by decide)]; exact hy.2
    · have hiC : i < C.length := by omega
      rw [gc_app _ _ hiC]
      have hx := hM.2.2.1.2.2 i hiC
      refine ⟨⟨?_, hx.1.2.1, ?_⟩, fun j hj => ⟨?_, ?_⟩⟩
      · repeat rw [up_ne _ _ (by omega)]
        rw [h5b _ _ (by decide) (by decide) (by decide), hG _ _ (by decide) (by decide)]; exact hx.1.1
      · repeat rw [up_ne _ _ (by omega)]
        rw [h5b _ _ (by decide) (by decide) (by decide), hG _ _ (by decide) (by decide)]; exact hx.1.2.2
      · repeat rw [up_ne _ _ (by omega)]
        rw [h5 _ _ (Or.inr (by have := hx.1.2.1; omega)), up_ne1 _ _ (by decide), hG _ _ (by decide) (by decide)]; exact (hx.2 j hj).1
      · repeat rw [up_ne _ _ (by omega)]
        rw [h5 _ _ (Or.inr (by have := hx.1.2.1; omega)), up_ne1 _ _ (by decide), hG _ _ (by decide) (by decide)]; exact (hx.2 j hj).2
  · repeat rw [up_ne _ _ (by omega)]
    rw [h5c 13 (by decide)]
  · repeat rw [up_ne _ _ (by omega)]
    rw [h5b b j (by omega) (by omega) (by omega), hG _ _ (by omega) (by omega)]
  · rcases List.mem_append.mp hx with hx | hx
    · exact hV.2.2.1.1.2 x hx
    · rw [List.mem_singleton.mp hx]; exact ⟨by show 0 < D.length; omega, hd6, WT_of hV.2.1.2⟩
  · rcases List.mem_append.mp hx with hx | hx
    · exact hV.2.2.1.2 x hx
    · rw [List.mem_singleton.mp hx]; exact hV.2.1.2
theorem set_VC {C : List Tx} {i : Nat} (hi : i < C.length) (b : Bool) (h : VC C ∧ WC C) : VC (C.set i ((gc C i).1, b)) ∧ WC (C.set i ((gc C i).1, b)) := by
  refine ⟨⟨by rw [List.length_set]; exact h.1.1, fun x hx => ?_⟩, fun x hx => ?_⟩
  · rcases List.mem_or_eq_of_mem_set hx with hx | rfl
    · exact h.1.2 x hx
    · exact h.1.2 (gc C i) (gc_mem hi)
  · rcases List.mem_or_eq_of_mem_set hx with hx | rfl
    · exact h.2 x hx
    · exact h.2 (gc C i) (gc_mem hi)
/-- the state behind text, from the class' side and the model's -/
theorem RA_text {m1 : mMM} {i : Nat} {b : Bool} {v : Int} (hA : RA m w k C D S) (hi : i < C.length) (hRC : RC m1 (C.set i ((gc C i).1, b)) D) (hG1 : ∀ b j, (b = 2 ∨ 75 ≤ b) → m1 b j = m b j) : RA (up (up (up m1 204 0 v) 190 0 0) 196 i (if b then 1 else 0)) w k (C.set i ((gc C i).1, b)) D S := by
  obtain ⟨hX, hM, hV⟩ := hA
  refine ⟨⟨⟨?_, ?_⟩, RC_fr (fun b j x y => ?_) hRC, RS_fr (fun b j x y => ?_) hX.2.2.1, LB9_fr (fun b j x y => ?_) hX.2.2.2⟩, ⟨⟨?_, ?_⟩, MDR_fr ?_ (fun b j hb => ?_) hM.2.1, ⟨?_, by rw [List.length_set]; exact hM.2.2.1.2.1, fun j hj => ?_⟩, MSR_fr ?_ (fun b j hb => ?_) hM.2.2.2⟩, hV.1, hV.2.1, set_VC hi b hV.2.2.1, hV.2.2.2⟩
  · repeat rw [up_ne _ _ (by omega)]
    rw [hG1 2 0 (Or.inl rfl)]; exact hX.1.1
  · repeat rw [up_ne _ _ (by omega)]
    rw [hG1 2 1 (Or.inl rfl)]; exact hX.1.2
  · repeat rw [up_ne _ _ (by omega)]
  · repeat rw [up_ne _ _ (by omega)]
    exact hG1 b j (by omega)
  · repeat rw [up_ne _ _ (by omega)]
    exact hG1 b j (by omega)
  · repeat rw [up_ne _ _ (by omega)]
    rw [hG1 _ _ (by decide)]; exact hM.1.1
  · repeat rw [up_ne _ _ (by omega)]
    rw [hG1 _ _ (by decide)]; exact hM.1.2
  · repeat rw [up_ne _ _ (by omega)]
    exact hG1 _ _ (by decide)
  · repeat rw [up_ne _ _ (by omega)]
    exact hG1 _ _ (by omega)
  · repeat rw [up_ne _ _ (by omega)]
    rw [hG1 _ _ (by decide), List.length_set]; exact hM.2.2.1.1
  · rw [List.length_set] at hj
    have hx := hM.2.2.1.2.2 j hj
    rw [gc_set _ _ hi]
    by_cases c0 : j = i
    · subst c0
      rw [if_pos rfl]
      refine ⟨⟨?_, hx.1.2.1, up_eq _ _ _ _⟩, fun l hl => ⟨?_, ?_⟩⟩
      · repeat rw [up_ne _ _ (by omega)]
        rw [hG1 _ _ (by decide)]; exact hx.1.1
      · repeat rw [up_ne _ _ (by omega)]
        rw [hG1 _ _ (by decide)]; exact (hx.2 l hl).1
      · repeat rw [up_ne _ _ (by omega)]
        rw [hG1 _ _ (by decide)]; exact (hx.2 l hl).2
    · rw [if_neg c0]
      refine ⟨⟨?_, hx.1.2.1, ?_⟩, fun l hl => ⟨?_, ?_⟩⟩
      · repeat rw [up_ne _ _ (by omega)]
        rw [hG1 _ _ (by decide)]; exact hx.1.1
      · repeat rw [up_ne _ _ (by omega)]
        rw [hG1 _ _ (by decide)]; exact hx.1.2.2
      · repeat rw [up_ne _ _ (by omega)]
        rw [hG1 _ _ (by decide)]; exact (hx.2 l hl).1
      · repeat rw [up_ne _ _ (by omega)]
        rw [hG1 _ _ (by decide)]; exact (hx.2 l hl).2
  · repeat rw [up_ne _ _ (by omega)]
    exact hG1 _ _ (by decide)
  · repeat rw [up_ne _ _ (by omega)]
    exact hG1 _ _ (by omega)
theorem set_self {C : List Tx} {i : Nat} (hi : i < C.length) {b : Bool} (hb : (gc C i).2 = b) : C.set i ((gc C i).1, b) = C := by
  rw [← hb, show ((gc C i).1, (gc C i).2) = gc C i from rfl, gc_get C hi, List.set_getElem_self]
theorem op_text (hA : RA m w k C D S) {c e : Int} (hc : -2147483648 ≤ c ∧ c < 2147483648) (he : e = 0 ∨ e = 1) : OPGQ (fun v => v = 0 ∨ v = 1) L xs t m 130 (entL 5 [vR (some 1), vI c, vI e, vR (some 204)]) 101 (entL 4 [vR (some 190), vI c, vI e]) vI := by
  have hA0 := hA
  obtain ⟨hX, hM, hV⟩ := hA
  have hC := hX.2.1
  have hn := hC.1.1
  have hn20 := hC.1.2.1
  by_cases h : c < 0 ∨ (C.length : Int) ≤ c
  · exact opq_thr (Or.inl rfl) hA0 (Or.inl rfl) (lx_text (x_textX2 hn hn20 hc h) rfl) (m_textX hM.2.2.1.1 hn20 (inI_of hc.1 hc.2) h)
  obtain ⟨i, rfl⟩ := Int.eq_ofNat_of_zero_le (show 0 ≤ c by omega)
  have hi : i < C.length := by omega
  have hci := (hC.1.2.2 i hi)
  have hxi := hV.2.2.1.1.2 _ (gc_mem hi)
  have h196 := (hM.2.2.1.2.2 i hi).1.2.2
  have hg0 : (gt (gc C i).1 0).2 < 5 := gt0_lt (hV.2.2.1.2 _ (gc_mem hi)) hxi.1
  have e12 : tx i = 12 + 3 * i := rfl
  rcases he with rfl | rfl
  · cases hb : (gc C i).2 with
    | true =>
      rw [hb] at h196 hci
      obtain ⟨m1, hE1, hs1, hF1⟩ := x_text0 (L := L) (xs := xs) (t := t) hn hn20 hi hxi.1 hxi.2.2 hci.1 hC.2.2.2.2.2 hci.2
      have hRC := RC_text hC hi false (by rw [hb]; rfl) hg0 hs1 hF1
      have hG1 : ∀ b j, (b = 2 ∨ 75 ≤ b) → m1 b j = m b j := fun b j hx => by
        rw [hF1 b j (by omega), up_ne1 _ _ (by omega), up_ne1 _ _ (by omega), up_ne1 _ _ (by omega)]
      refine opq_ok (Or.inr rfl) (lo_text1 hE1) (m_text0 (by rw [up_ne1 _ _ (by decide), hG1 _ _ (by decide)]; exact hM.2.2.1.1) hn20 hi (by rw [up_ne1 _ _ (by decide), hG1 _ _ (by decide)]; exact h196) (Or.inr rfl)) ?_ ?_ rfl (RA_text (b := false) hA0 hi hRC hG1)
      · rw [up_ne1 _ _ (by decide), up_eq]
      · rw [up_ne1 _ _ (by decide), up_ne1 _ _ (by decide), up_eq]
    | false =>
      rw [hb] at h196 hci
      refine opq_ok (Or.inl rfl) (lo_text0 (x_textS0 hn hn20 hi hci.2)) (m_text0 (by rw [up_ne1 _ _ (by decide)]; exact hM.2.2.1.1) hn20 hi (by rw [up_ne1 _ _ (by decide)]; exact h196) (Or.inl rfl)) ?_ ?_ rfl (RA_text (b := false) hA0 hi (by rw [set_self hi hb]; exact hC) (fun _ _ _ => rfl))
      · rw [up_ne1 _ _ (by decide), up_eq]
      · rw [up_ne1 _ _ (by decide), up_ne1 _ _ (by decide), up_eq]
  · cases hb : (gc C i).2 with
    | false =>
      rw [hb] at h196 hci
      obtain ⟨m1, hE1, hs1, hF1⟩ := x_text1 (L := L) (xs := xs) (t := t) hn hn20 hi hxi.1 hxi.2.2 hci.1 hC.2.2.2.2.2 hci.2
      have hRC := RC_text hC hi true (by rw [hb]; rfl) hg0 hs1 hF1
      have hG1 : ∀ b j, (b = 2 ∨ 75 ≤ b) → m1 b j = m b j := fun b j hx => by
        rw [hF1 b j (by omega), up_ne1 _ _ (by omega), up_ne1 _ _ (by omega), up_ne1 _ _ (by omega)]
      refine opq_ok (Or.inl rfl) (lo_text0 hE1) (m_text1 (by rw [up_ne1 _ _ (by decide), hG1 _ _ (by decide)]; exact hM.2.2.1.1) hn20 hi (by rw [up_ne1 _ _ (by decide), hG1 _ _ (by decide)]; exact h196) (Or.inl rfl)) ?_ ?_ rfl (RA_text (b := true) hA0 hi hRC hG1)
      · rw [up_ne1 _ _ (by decide), up_eq]
      · rw [up_ne1 _ _ (by decide), up_ne1 _ _ (by decide), up_eq]
    | true =>
      rw [hb] at h196 hci
      refine opq_ok (Or.inr rfl) (lo_text1 (x_textS1 hn hn20 hi hci.2)) (m_text1 (by rw [up_ne1 _ _ (by decide)]; exact hM.2.2.1.1) hn20 hi (by rw [up_ne1 _ _ (by decide)]; exact h196) (Or.inr rfl)) ?_ ?_ rfl (RA_text (b := true) hA0 hi (by rw [set_self hi hb]; exact hC) (fun _ _ _ => rfl))
      · rw [up_ne1 _ _ (by decide), up_eq]
      · rw [up_ne1 _ _ (by decide), up_ne1 _ _ (by decide), up_eq]
theorem op_word (hA : RA m w k C D S) : OPG L xs t m 131 (entL 3 [vR (some 1), vR (some 204)]) 102 (entL 1 [vR (some 190)]) vI := by
  have hA0 := hA
  obtain ⟨hX, hM, hV⟩ := hA
  have ht := hX.1
  by_cases hk0 : k = 0
  · exact opg_thr hA0 (Or.inl rfl) (lx_word (x_wordX1 (by rw [ht.2, hk0]; rfl)) rfl) (m_wordX1 (by rw [hM.1.2, hk0]; rfl))
  have hk6 := hV.1.2
  have hn := hX.2.2.1.1
  have hn5 := hX.2.2.1.2.1
  by_cases h5 : S.length = 5
  · exact opg_thr hA0 (Or.inl rfl) (lx_word (x_wordX2 (by rw [ht.2]; omega) (by rw [hn, h5]; rfl)) rfl) (m_wordX2 hM.1.2 (by omega) (by rw [hM.2.2.2.1, h5]; rfl))
  have h1 := x_word0 (L := L) (xs := xs) (t := t) (m := m) (by rw [ht.2]; omega) hn (by omega)
  rw [ht.1] at h1
  have h2 := lo_word h1 (inI_of (by omega) (by omega))
  have hVw := VWk_d hV.1.1 (by omega)
  have hwb := VWd_bd hVw
  have hG : ∀ b j, 78 ≤ b → b ≠ 204 → up (up (up (up (up (up m 2 0 0) 2 1 0) 76 S.length w) 77 S.length (-1)) 75 2 ((S.length + 1 : Nat) : Int)) 204 0 ((S.length + 1 : Nat) : Int) b j = m b j := fun b j hb h4 => by
    repeat rw [up_ne _ _ (by omega)]
  have h3 := m_word0 (L := L) (xs := xs) (t := t) (m := up (up (up (up (up (up m 2 0 0) 2 1 0) 76 S.length w) 77 S.length (-1)) 75 2 ((S.length + 1 : Nat) : Int)) 204 0 ((S.length + 1 : Nat) : Int)) (k := k) (n := S.length) (by rw [hG _ _ (by decide) (by decide)]; exact hM.1.2) (by omega) (by rw [hG _ _ (by decide) (by decide)]; exact hM.2.2.2.1) (by omega)
  rw [hG 190 1 (by decide) (by decide), hM.1.1] at h3
  have hl : (S ++ [(w, -1)]).length = S.length + 1 := by rw [List.length_append]; rfl
  refine opg_ok (w' := 0) (k' := 0) (C' := C) (D' := D) (S' := S ++ [(w, -1)]) h2 h3 ?_ ?_ (inI_of (by omega) (by omega)) ⟨⟨⟨?_, ?_⟩, RC_fr (fun b j x y => ?_) hX.2.1, ⟨?_, by rw [hl]; omega, fun i hi => ?_⟩, LB9_fr (fun b j x y => ?_) hX.2.2.2⟩, ⟨⟨?_, ?_⟩, MDR_fr ?_ (fun b j hb => ?_) hM.2.1, MCR_hi (fun b j x => ?_) hM.2.2.1, ⟨?_, by rw [hl]; omega, fun i hi => ?_⟩⟩, ⟨Or.inl ⟨rfl, rfl⟩, by omega⟩, hV.2.1, hV.2.2.1, fun x hx => ?_, fun x hx => ?_⟩
  · repeat rw [up_ne _ _ (by omega)]
    rw [up_eq]
  · repeat rw [up_ne _ _ (by omega)]
    rw [up_eq]
  · repeat rw [up_ne _ _ (by omega)]
    rw [up_eq]
  · repeat rw [up_ne _ _ (by omega)]
    rw [up_eq]; rfl
  · repeat rw [up_ne _ _ (by omega)]
  · repeat rw [up_ne _ _ (by omega)]
    rw [up_eq, hl]
  · rw [hl] at hi
    by_cases c0 : i = S.length
    · subst c0
      rw [gs_last]
      refine ⟨?_, ?_⟩
      · repeat rw [up_ne _ _ (by omega)]
        rw [up_eq]
      · repeat rw [up_ne _ _ (by omega)]
        rw [up_eq]
    · rw [gs_app _ _ (by omega)]
      have hx := hX.2.2.1.2.2 i (by omega)
      refine ⟨?_, ?_⟩
      · repeat rw [up_ne _ _ (by omega)]
        exact hx.1
      · repeat rw [up_ne _ _ (by omega)]
        exact hx.2
  · repeat rw [up_ne _ _ (by omega)]
  · repeat rw [up_ne _ _ (by omega)]
    rw [up_eq]; rfl
  · repeat rw [up_ne _ _ (by omega)]
    rw [up_eq]; rfl
  · repeat rw [up_ne _ _ (by omega)]
  · repeat rw [up_ne _ _ (by omega)]
  · repeat rw [up_ne _ _ (by omega)]
  · rw [up_eq, hl]
  · rw [hl] at hi
    by_cases c0 : i = S.length
    · subst c0
      rw [gs_last]
      refine ⟨?_, ?_⟩
      · repeat rw [up_ne _ _ (by omega)]
        rw [up_eq]
      · repeat rw [up_ne _ _ (by omega)]
        rw [up_eq]
    · rw [gs_app _ _ (by omega)]
      have hx := hM.2.2.2.2.2 i (by omega)
      refine ⟨?_, ?_⟩
      · repeat rw [up_ne _ _ (by omega)]
        exact hx.1
      · repeat rw [up_ne _ _ (by omega)]
        exact hx.2
  · rcases List.mem_append.mp hx with hx | hx
    · exact hV.2.2.2.1 x hx
    · rw [List.mem_singleton.mp hx]; exact ⟨by show 0 ≤ w; omega, by show w < 2147483648; omega, by show (-1 : Int) ≤ -1; decide, by show (-1 : Int) < 5; decide⟩
  · rcases List.mem_append.mp hx with hx | hx
    · exact hV.2.2.2.2 x hx
    · rw [List.mem_singleton.mp hx]; exact hVw
theorem op_lock (hA : RA m w k C D S) {c e : Int} (hc : inI c = true) (he : inI e = true) : OPG L xs t m 132 (entL 5 [vR (some 1), vI c, vI e, vR (some 204)]) 104 (entL 4 [vR (some 190), vI c, vI e]) vI := by
  have hA0 := hA
  obtain ⟨hX, hM, hV⟩ := hA
  have hs := hX.2.2.1
  have hs2 := hM.2.2.2
  by_cases h : c < 0 ∨ (S.length : Int) ≤ c
  · exact opg_thr hA0 (Or.inl rfl) (lx_lock (x_lockX1 hs.1 hs.2.1 hc h) rfl) (m_lockX1 hs2.1 hs2.2.1 hc h)
  obtain ⟨p, rfl⟩ := Int.eq_ofNat_of_zero_le (show 0 ≤ c by omega)
  have hp : p < S.length := by omega
  by_cases h2 : e < -1 ∨ 5 ≤ e
  · exact opg_thr hA0 (Or.inl rfl) (lx_lock (x_lockX2 hs.1 hs.2.1 hp he h2) rfl) (m_lockX2 hs2.1 hs2.2.1 hp he h2)
  have hxs := hs.2.2 p hp
  have hvs := hV.2.2.2.1 _ (gs_mem hp)
  have h1 : Ev (PP L xs) 9 68 0 (entL 3 [vR (some 1), vI ((p : Nat) : Int), vI e]) [] (HS t m) (.inl (some (vI (m 77 p)))) (HS t (up m 77 p e)) := by
    by_cases h3 : e = -1
    · subst h3; exact x_lockN hs.1 hs.2.1 hp
    · obtain ⟨g, rfl⟩ := Int.eq_ofNat_of_zero_le (show 0 ≤ e by omega)
      exact x_lockG hs.1 hs.2.1 hp (by omega)
  rw [hxs.2] at h1
  have h4 := lo_lock h1 (inI_of (by omega) (by omega))
  have h5 := m_lock0 (L := L) (xs := xs) (t := t) (m := up (up m 77 p e) 204 0 (gs S p).2) (n := S.length) (p := p) (y := e) (by rw [up_ne1 _ _ (by decide), up_ne1 _ _ (by decide)]; exact hs2.1) hs2.2.1 hp (by omega)
  rw [up_ne1 (b := 198) _ _ (by decide), up_ne1 (b := 198) _ _ (by decide), (hs2.2.2 p hp).2] at h5
  have hl : (S.set p ((gs S p).1, e)).length = S.length := List.length_set
  refine opg_ok (w' := w) (k' := k) (C' := C) (D' := D) (S' := S.set p ((gs S p).1, e)) h4 h5 ?_ ?_ (inI_of (by omega) (by omega)) ⟨⟨⟨?_, ?_⟩, RC_fr (fun b j x y => ?_) hX.2.1, ⟨?_, by rw [hl]; exact hs.2.1, fun i hi => ?_⟩, LB9_fr (fun b j x y => ?_) hX.2.2.2⟩, ⟨⟨?_, ?_⟩, MDR_fr ?_ (fun b j hb => ?_) hM.2.1, MCR_hi (fun b j x => ?_) hM.2.2.1, ⟨?_, by rw [hl]; exact hs.2.1, fun i hi => ?_⟩⟩, hV.1, hV.2.1, hV.2.2.1, fun x hx => ?_, fun x hx => ?_⟩
  · rw [up_ne1 _ _ (by decide), up_eq]
  · rw [up_ne1 _ _ (by decide), up_ne1 _ _ (by decide), up_eq]
  · repeat rw [up_ne _ _ (by omega)]
    exact hX.1.1
  · repeat rw [up_ne _ _ (by omega)]
    exact hX.1.2
  · repeat rw [up_ne _ _ (by omega)]
  · repeat rw [up_ne _ _ (by omega)]
    rw [hl]; exact hs.1
  · rw [hl] at hi
    have hx := hs.2.2 i hi
    rw [gs_set _ _ hp]
    by_cases c0 : i = p
    · subst c0
      rw [if_pos rfl]
      refine ⟨?_, ?_⟩
      · repeat rw [up_ne _ _ (by omega)]
        exact hx.1
      · repeat rw [up_ne _ _ (by omega)]
        rw [up_eq]
    · rw [if_neg c0]
      refine ⟨?_, ?_⟩
      · repeat rw [up_ne _ _ (by omega)]
        exact hx.1
      · repeat rw [up_ne _ _ (by omega)]
        exact hx.2
  · repeat rw [up_ne _ _ (by omega)]
  · repeat rw [up_ne _ _ (by omega)]
    exact hM.1.1
  · repeat rw [up_ne _ _ (by omega)]
    exact hM.1.2
  · repeat rw [up_ne _ _ (by omega)]
  · repeat rw [up_ne _ _ (by omega)]
  · repeat rw [up_ne _ _ (by omega)]
  · repeat rw [up_ne _ _ (by omega)]
    rw [hl]; exact hs2.1
  · rw [hl] at hi
    have hx := hs2.2.2 i hi
    rw [gs_set _ _ hp]
    by_cases c0 : i = p
    · subst c0
      rw [if_pos rfl]
      refine ⟨?_, up_eq _ _ _ _⟩
      repeat rw [up_ne _ _ (by omega)]
      exact hx.1
    · rw [if_neg c0]
      refine ⟨?_, ?_⟩
      · repeat rw [up_ne _ _ (by omega)]
        exact hx.1
      · repeat rw [up_ne _ _ (by omega)]
        exact hx.2
  · rcases List.mem_or_eq_of_mem_set hx with hx | rfl
    · exact hV.2.2.2.1 x hx
    · exact ⟨hvs.1, hvs.2.1, by show -1 ≤ e; omega, by show e < 5; omega⟩
  · rcases List.mem_or_eq_of_mem_set hx with hx | rfl
    · exact hV.2.2.2.2 x hx
    · exact hV.2.2.2.2 (gs S p) (gs_mem hp)
end OPS
