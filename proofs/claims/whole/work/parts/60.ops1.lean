/-! ===== class and model side by side: what holds of both; letter, tag, word, clear, lock ===== -/
def VWk (w : Int) (k : Nat) : Prop := (k = 0 ∧ w = 0) ∨ (0 < k ∧ VWd w ∧ w < 32 ^ k)
theorem VWk_app {w c : Int} {k : Nat} (h : VWk w k) (hk : k < 6) (hc : 1 ≤ c ∧ c ≤ 26) : VWk (w * 2 ^ 5 + c) (k + 1) ∧ cv (w * 2 ^ 5 + c) = 27 * cv w + c := by
  have p5 : (2 : Int) ^ 5 = 32 := rfl
  rw [p5]
  rcases h with ⟨rfl, rfl⟩ | ⟨h0, ⟨a0, a1, a2, a3, a4, a5, h⟩, hw⟩
  · have hd : VD (0 * 32 + c) c 0 0 0 0 0 := by unfold VD; omega
    refine ⟨Or.inr ⟨by omega, ⟨c, 0, 0, 0, 0, 0, hd⟩, by show 0 * 32 + c < 32; omega⟩, ?_⟩
    rw [VD_cv hd, show cv 0 = 0 from rfl]; omega
  · have h5 : w < 33554432 := by
      have : (32 : Int) ^ k ≤ 33554432 := by
        have h6 : ∀ j, j < 6 → (32 : Int) ^ j ≤ 33554432 := by decide
        exact h6 k hk
      omega
    have hd : VD (w * 32 + c) c a0 a1 a2 a3 a4 := by unfold VD at h ⊢; omega
    have e5 : a5 = 0 := by unfold VD at h; omega
    refine ⟨Or.inr ⟨by omega, ⟨_, _, _, _, _, _, hd⟩, ?_⟩, ?_⟩
    · rw [Int.pow_succ]; omega
    · rw [VD_cv hd, VD_cv h, e5]; omega
theorem VWd_bd {w : Int} (h : VWd w) : 0 < w ∧ w < 1073741824 := by
  obtain ⟨_, _, _, _, _, _, h⟩ := h; exact VD_bd h
theorem VWk_bd {w : Int} {k : Nat} (h : VWk w k) : 0 ≤ w ∧ w < 1073741824 := by
  rcases h with ⟨_, rfl⟩ | ⟨_, h, _⟩
  · decide
  · have := VWd_bd h; omega
theorem VWk_d {w : Int} {k : Nat} (h : VWk w k) (hk : 0 < k) : VWd w := by
  rcases h with ⟨h, _⟩ | ⟨_, h, _⟩
  · omega
  · exact h
theorem VWk_sm {w : Int} {k : Nat} (h : VWk w k) (hk : k < 6) : w < 33554432 := by
  rcases h with ⟨_, rfl⟩ | ⟨_, _, h⟩
  · decide
  · have h6 : ∀ j, j < 6 → (32 : Int) ^ j ≤ 33554432 := by decide
    have := h6 k hk; omega
def RX (m : mMM) (w : Int) (k : Nat) (C : List Tx) (D : List (Int × Nat)) (S : List (Int × Int)) : Prop := RT m w k ∧ RC m C D ∧ RS m S ∧ LB9 m
def MDR (m : mMM) (D : List (Int × Nat)) : Prop := m 190 5 = (D.length : Int) ∧ ∀ i, i < D.length → m 191 i = cv (gt D i).1 ∧ m 192 i = ((gt D i).2 : Int)
def RMo (m : mMM) (w : Int) (k : Nat) (C : List Tx) (D : List (Int × Nat)) (S : List (Int × Int)) : Prop := (m 190 1 = cv w ∧ m 190 2 = (k : Int)) ∧ MDR m D ∧ MCR m C ∧ MSR m S
def VDr (D : List (Int × Nat)) : Prop := D.length ≤ 6 ∧ ∀ z, z ∈ D → VWd z.1 ∧ z.2 < 5
def VA (w : Int) (k : Nat) (C : List Tx) (D : List (Int × Nat)) (S : List (Int × Int)) : Prop := (VWk w k ∧ k ≤ 6) ∧ VDr D ∧ (VC C ∧ WC C) ∧ VS S ∧ WS S
def RA (m : mMM) (w : Int) (k : Nat) (C : List Tx) (D : List (Int × Nat)) (S : List (Int × Int)) : Prop := RX m w k C D S ∧ RMo m w k C D S ∧ VA w k C D S
theorem RX_fr {m m' : mMM} {w : Int} {k : Nat} {C : List Tx} {D : List (Int × Nat)} {S : List (Int × Int)} (h : ∀ b j, b ≤ 77 → m' b j = m b j) (hl : LB9 m') (hr : RX m w k C D S) : RX m' w k C D S :=
  ⟨RT_fr (fun b j hb => h b j (by omega)) hr.1, RC_fr (fun b j _ hb => h b j (by omega)) hr.2.1, RS_fr (fun b j _ hb => h b j (by omega)) hr.2.2.1, hl⟩
theorem RX_hi {m m' : mMM} {w : Int} {k : Nat} {C : List Tx} {D : List (Int × Nat)} {S : List (Int × Int)} (h : ∀ b j, b < 190 → m' b j = m b j) (hr : RX m w k C D S) : RX m' w k C D S :=
  RX_fr (fun b j hb => h b j (by omega)) (LB9_fr (fun b j _ hb => h b j (by omega)) hr.2.2.2) hr
theorem MDR_fr {m m' : mMM} {D : List (Int × Nat)} (h5 : m' 190 5 = m 190 5) (h : ∀ b j, b = 191 ∨ b = 192 → m' b j = m b j) (hr : MDR m D) : MDR m' D :=
  ⟨by rw [h5]; exact hr.1, fun i hi => by rw [h 191 i (Or.inl rfl), h 192 i (Or.inr rfl)]; exact hr.2 i hi⟩
theorem MSR_fr {m m' : mMM} {S : List (Int × Int)} (h13 : m' 190 13 = m 190 13) (h : ∀ b j, b = 197 ∨ b = 198 → m' b j = m b j) (hr : MSR m S) : MSR m' S :=
  ⟨by rw [h13]; exact hr.1, hr.2.1, fun i hi => by rw [h 197 i (Or.inl rfl), h 198 i (Or.inr rfl)]; exact hr.2.2 i hi⟩
theorem MCR_hi {m m' : mMM} {C : List Tx} (h : ∀ b k, ((b = 190 ∧ k = 10) ∨ (193 ≤ b ∧ b ≤ 196)) → m' b k = m b k) (hM : MCR m C) : MCR m' C :=
  ⟨by rw [h 190 10 (by omega)]; exact hM.1, hM.2.1, fun i hi => by
    have hx := hM.2.2 i hi
    refine ⟨⟨by rw [h 195 i (by omega)]; exact hx.1.1, hx.1.2.1, by rw [h 196 i (by omega)]; exact hx.1.2.2⟩, fun j hj => ?_⟩
    rw [h 193 _ (by omega), h 194 _ (by omega)]; exact hx.2 j hj⟩
theorem RMo_fr {m m' : mMM} {w : Int} {k : Nat} {C : List Tx} {D : List (Int × Nat)} {S : List (Int × Int)} (h : ∀ b j, 190 ≤ b → b ≤ 198 → (b ≠ 190 ∨ j = 1 ∨ j = 2 ∨ j = 5 ∨ j = 10 ∨ j = 13) → m' b j = m b j) (hr : RMo m w k C D S) : RMo m' w k C D S := by
  refine ⟨⟨by rw [h 190 1 (by omega) (by omega) (by omega)]; exact hr.1.1, by rw [h 190 2 (by omega) (by omega) (by omega)]; exact hr.1.2⟩, MDR_fr (h 190 5 (by omega) (by omega) (by omega)) (fun b j hb => h b j (by omega) (by omega) (by omega)) hr.2.1, ?_, MSR_fr (h 190 13 (by omega) (by omega) (by omega)) (fun b j hb => h b j (by omega) (by omega) (by omega)) hr.2.2.2⟩
  exact MCR_hi (fun b j x => h b j (by omega) (by omega) (by omega)) hr.2.2.1
/-- a call of the law's method jw and of the model's method jm: alike, and the state goes on alike -/
def OPGQ (Q : Int → Prop) (L : Nat) (xs : Nat → Int32) (t : Bool × Nat × Nat) (m : mMM) (jw : Nat) (wa : mLS) (jm : Nat) (ma : mLS) (F : Int → mMV) : Prop :=
  ∃ (kk v : Int) (t' : Bool × Nat × Nat) (mm m2 : mMM) (w : Int) (k : Nat) (C : List Tx) (D : List (Int × Nat)) (S : List (Int × Int)), Ev (PP L xs) 10 jw 0 wa [] (HS t m) (.inl (some (vI kk))) (HS t' mm) ∧ Ev (PP L xs) 10 jm 0 ma [] (HS t' mm) (.inl (some (F v))) (HS t' m2) ∧ m2 190 0 = kk ∧ inI kk = true ∧ (kk = 0 → m2 204 0 = v) ∧ inI v = true ∧ RA m2 w k C D S ∧ (t.2.1 ≤ t'.2.1 ∧ t'.2.1 ≤ t.2.1 + 1) ∧ (t.2.2 ≤ t'.2.2 ∧ t'.2.2 ≤ t.2.2 + 6) ∧ Q v
abbrev OPG := OPGQ (fun _ => True)
section OPS
variable {L : Nat} {xs : Nat → Int32} {t : Bool × Nat × Nat} {m : mMM} {w : Int} {k : Nat} {C : List Tx} {D : List (Int × Nat)} {S : List (Int × Int)}
theorem RA_thr (v : Int) (hA : RA m w k C D S) : RA (up m 190 0 v) w k C D S :=
  ⟨RX_hi (fun b j hb => up_ne1 _ _ (by omega)) hA.1, RMo_fr (fun b j h1 h2 h3 => up_ne _ _ (by omega)) hA.2.1, hA.2.2⟩
theorem opq_thr {Q : Int → Prop} {jw jm : Nat} {wa ma : mLS} {F : Int → mMV} {kk : Int} (hq : Q 0) (hA : RA m w k C D S) (hk : kk = 1 ∨ kk = 2) (h1 : Ev (PP L xs) 10 jw 0 wa [] (HS t m) (.inl (some (vI kk))) (HS (tt t) m)) (h2 : Ev (PP L xs) 10 jm 0 ma [] (HS (tt t) m) (.inl (some (F 0))) (HS (tt t) (up m 190 0 kk))) : OPGQ Q L xs t m jw wa jm ma F :=
  ⟨kk, 0, tt t, m, up m 190 0 kk, w, k, C, D, S, h1, h2, up_eq _ _ _ _, by rcases hk with rfl | rfl <;> rfl, fun h => absurd h (by omega), rfl, RA_thr kk hA, ⟨Nat.le_succ _, Nat.le_refl _⟩, ⟨Nat.le_add_right _ _, Nat.le_refl _⟩, hq⟩
theorem opq_ok {Q : Int → Prop} {jw jm : Nat} {wa ma : mLS} {F : Int → mMV} {v w' : Int} {k' : Nat} {C' : List Tx} {D' : List (Int × Nat)} {S' : List (Int × Int)} {m1 m2 : mMM} (hq : Q v) (h1 : Ev (PP L xs) 10 jw 0 wa [] (HS t m) (.inl (some (vI 0))) (HS t (up m1 204 0 v))) (h2 : Ev (PP L xs) 10 jm 0 ma [] (HS t (up m1 204 0 v)) (.inl (some (F v))) (HS t m2)) (e0 : m2 190 0 = 0) (e4 : m2 204 0 = v) (hv : inI v = true) (hA : RA m2 w' k' C' D' S') : OPGQ Q L xs t m jw wa jm ma F :=
  ⟨0, v, t, _, m2, w', k', C', D', S', h1, h2, e0, rfl, fun _ => e4, hv, hA, ⟨Nat.le_refl _, Nat.le_add_right _ _⟩, ⟨Nat.le_refl _, Nat.le_add_right _ _⟩, hq⟩
theorem opg_thr {jw jm : Nat} {wa ma : mLS} {F : Int → mMV} {kk : Int} (hA : RA m w k C D S) (hk : kk = 1 ∨ kk = 2) (h1 : Ev (PP L xs) 10 jw 0 wa [] (HS t m) (.inl (some (vI kk))) (HS (tt t) m)) (h2 : Ev (PP L xs) 10 jm 0 ma [] (HS (tt t) m) (.inl (some (F 0))) (HS (tt t) (up m 190 0 kk))) : OPG L xs t m jw wa jm ma F := opq_thr trivial hA hk h1 h2
theorem opg_ok {jw jm : Nat} {wa ma : mLS} {F : Int → mMV} {v w' : Int} {k' : Nat} {C' : List Tx} {D' : List (Int × Nat)} {S' : List (Int × Int)} {m1 m2 : mMM} (h1 : Ev (PP L xs) 10 jw 0 wa [] (HS t m) (.inl (some (vI 0))) (HS t (up m1 204 0 v))) (h2 : Ev (PP L xs) 10 jm 0 ma [] (HS t (up m1 204 0 v)) (.inl (some (F v))) (HS t m2)) (e0 : m2 190 0 = 0) (e4 : m2 204 0 = v) (hv : inI v = true) (hA : RA m2 w' k' C' D' S') : OPG L xs t m jw wa jm ma F := opq_ok trivial h1 h2 e0 e4 hv hA
theorem op_letter (hA : RA m w k C D S) {c : Int} (hc : 0 ≤ c ∧ c < 65536) : OPG L xs t m 127 (entL 4 [vR (some 1), vI c, vR (some 204)]) 97 (entL 2 [vR (some 190), vI c]) vI := by
  obtain ⟨hX, hM, hV⟩ := hA
  have ht := hX.1
  have hI : inI c = true := inI_of (by omega) (by omega)
  by_cases h : 97 ≤ c ∧ c ≤ 122
  · by_cases h6 : k = 6
    · exact opg_thr ⟨hX, hM, hV⟩ (Or.inr rfl) (lx_letter (x_letterX1 h (by rw [ht.2, h6]; rfl)) rfl) (m_letterX2 h (by rw [hM.1.2, h6]; rfl))
    · have hk6 : k < 6 := by have := hV.1.2; omega
      have ha := VWk_app hV.1.1 hk6 (c := c - 97 + 1) (by omega)
      have h1 := x_letter0 (L := L) (xs := xs) (t := t) (m := m) (c := c) h (by rw [ht.1]; exact (VWk_bd hV.1.1).1) (by rw [ht.1]; exact VWk_sm hV.1.1 hk6) (by rw [ht.2]; omega) (by rw [ht.2]; omega)
      rw [ht.1, ht.2] at h1
      have h2 := lo_letter h1 (inI_of (by omega) (by omega))
      have e2 : up (up (up m 2 0 (w * 2 ^ 5 + (c - 97 + 1))) 2 1 ((k : Int) + 1)) 204 0 ((k : Int) + 1) 190 2 = (k : Int) := by
        rw [up_ne1 _ _ (by decide), up_ne1 _ _ (by decide), up_ne1 _ _ (by decide)]; exact hM.1.2
      have e1 : up (up (up m 2 0 (w * 2 ^ 5 + (c - 97 + 1))) 2 1 ((k : Int) + 1)) 204 0 ((k : Int) + 1) 190 1 = cv w := by
        rw [up_ne1 _ _ (by decide), up_ne1 _ _ (by decide), up_ne1 _ _ (by decide)]; exact hM.1.1
      have h3 := m_letter0 (L := L) (xs := xs) (t := t) (c := c) h e2 hk6
      rw [e1] at h3
      rw [show ((k + 1 : Nat) : Int) = (k : Int) + 1 from rfl] at h3
      refine opg_ok (w' := w * 2 ^ 5 + (c - 97 + 1)) (k' := k + 1) h2 h3 ?_ ?_ (inI_of (by omega) (by omega)) ⟨⟨⟨?_, ?_⟩, RC_fr (fun b j x y => ?_) hX.2.1, RS_fr (fun b j x y => ?_) hX.2.2.1, LB9_fr (fun b j x y => ?_) hX.2.2.2⟩, ⟨⟨?_, ?_⟩, MDR_fr ?_ (fun b j hb => ?_) hM.2.1, MCR_hi (fun b j x => ?_) hM.2.2.1, MSR_fr ?_ (fun b j hb => ?_) hM.2.2.2⟩, ⟨ha.1, by omega⟩, hV.2⟩
      · rw [up_ne2 _ _ (by decide), up_ne2 _ _ (by decide), up_eq]
      · rw [up_ne1 _ _ (by decide), up_ne1 _ _ (by decide), up_ne1 _ _ (by decide), up_eq]
      · rw [up_ne1 _ _ (by decide), up_ne1 _ _ (by decide), up_ne1 _ _ (by decide), up_ne1 _ _ (by decide), up_ne2 _ _ (by decide), up_eq]
      · rw [up_ne1 _ _ (by decide), up_ne1 _ _ (by decide), up_ne1 _ _ (by decide), up_ne1 _ _ (by decide), up_eq]; rfl
      · repeat rw [up_ne _ _ (by omega)]
      · repeat rw [up_ne _ _ (by omega)]
      · repeat rw [up_ne _ _ (by omega)]
      · rw [up_ne2 _ _ (by decide), up_eq, ha.2]; omega
      · rw [up_eq]; rfl
      · repeat rw [up_ne _ _ (by omega)]
      · repeat rw [up_ne _ _ (by omega)]
      · repeat rw [up_ne _ _ (by omega)]
      · repeat rw [up_ne _ _ (by omega)]
      · repeat rw [up_ne _ _ (by omega)]
  · exact opg_thr ⟨hX, hM, hV⟩ (Or.inl rfl) (lx_letter (x_letterX0 (by omega) hI) rfl) (m_letterX1 (by omega) (by omega))
theorem WT_of {l : List (Int × Nat)} (h : ∀ z, z ∈ l → VWd z.1 ∧ z.2 < 5) : WT l := fun x hx => by
  have h1 := h x hx
  have h2 := VWd_bd h1.1
  exact ⟨by omega, by omega, h1.2⟩
theorem op_tag (hA : RA m w k C D S) {c : Int} (hc : inI c = true) : OPG L xs t m 128 (entL 4 [vR (some 1), vI c, vR (some 204)]) 99 (entL 2 [vR (some 190), vI c]) vI := by
  obtain ⟨hX, hM, hV⟩ := hA
  have ht := hX.1
  by_cases hg : c < 0 ∨ 5 ≤ c
  · exact opg_thr ⟨hX, hM, hV⟩ (Or.inl rfl) (lx_tag (x_tagX2 hg hc) rfl) (m_tagX1 hg hc)
  obtain ⟨g, rfl⟩ := Int.eq_ofNat_of_zero_le (show 0 ≤ c by omega)
  have hg5 : g < 5 := by omega
  by_cases hk0 : k = 0
  · exact opg_thr ⟨hX, hM, hV⟩ (Or.inr rfl) (lx_tag (x_tagX1 hg5 (by rw [ht.2, hk0]; rfl)) rfl) (m_tagX2 hg5 (by rw [hM.1.2, hk0]; rfl))
  have hk6 := hV.1.2
  have hC := hX.2.1
  have hn := hC.1.1
  have hn20 := hC.1.2.1
  have hz := hC.2.1.1.1
  by_cases hd : D.length = 6
  · exact opg_thr ⟨hX, hM, hV⟩ (Or.inr rfl) (lx_tag (x_tagX3 hg5 (by rw [ht.2]; omega) hn hn20 hz hd) rfl) (m_tagX3 hg5 hM.1.2 (by omega) (by rw [hM.2.1.1, hd]; rfl))
  have hd6 : D.length < 6 := by have := hV.2.1.1; omega
  have e12 : tx C.length = 12 + 3 * C.length := rfl
  have h1 := x_tag0 (L := L) (xs := xs) (t := t) (m := m) hg5 (by rw [ht.2]; omega) hn hn20 hz hd6
  rw [ht.1] at h1
  have h2 := lo_tag h1 (inI_of (by omega) (by omega))
  have hF0 : ∀ b j, b ≠ 2 → (up (up m 2 0 0) 2 1 0) b j = m b j := fun b j hb => by rw [up_ne1 _ _ hb, up_ne1 _ _ hb]
  have hRC := RC_tag (w := w) (g := g) (RC_fr (fun b j x y => hF0 b j (by omega)) hC) hd6
  generalize hm1 : (up (up (up (up (up m 2 0 0) 2 1 0) (tx C.length + 1) D.length w) (tx C.length + 2) D.length (g : Int)) (tx C.length) 2 ((D.length + 1 : Nat) : Int)) = m1 at *
  have hF1 : ∀ b j, 75 ≤ b → m1 b j = m b j := fun b j hb => by
    rw [← hm1, up_ne1 _ _ (by omega), up_ne1 _ _ (by omega), up_ne1 _ _ (by omega), hF0 b j (by omega)]
  have hT1 : m1 2 0 = 0 ∧ m1 2 1 = 0 := by
    rw [← hm1]
    refine ⟨?_, ?_⟩
    · rw [up_ne1 _ _ (by omega), up_ne1 _ _ (by omega), up_ne1 _ _ (by omega), up_ne2 _ _ (by decide), up_eq]
    · rw [up_ne1 _ _ (by omega), up_ne1 _ _ (by omega), up_ne1 _ _ (by omega), up_eq]
  have hG : ∀ b j, 75 ≤ b → b ≠ 204 → up m1 204 0 ((D.length + 1 : Nat) : Int) b j = m b j := fun b j hb h4 => by rw [up_ne1 _ _ h4, hF1 b j hb]
  have h3 := m_tag0 (L := L) (xs := xs) (t := t) (m := up m1 204 0 ((D.length + 1 : Nat) : Int)) (k := k) (z := D.length) hg5 (by rw [hG _ _ (by decide) (by decide)]; exact hM.1.2) (by omega) (by rw [hG _ _ (by decide) (by decide)]; exact hM.2.1.1) hd6
  rw [hG 190 1 (by decide) (by decide), hM.1.1] at h3
  have hVw := VWk_d hV.1.1 (by omega)
  refine opg_ok (w' := 0) (k' := 0) (C' := C) (D' := D ++ [(w, g)]) (S' := S) h2 h3 ?_ ?_ (inI_of (by omega) (by omega)) ⟨⟨⟨?_, ?_⟩, RC_fr (fun b j x y => ?_) hRC, RS_fr (fun b j x y => ?_) hX.2.2.1, LB9_fr (fun b j x y => ?_) hX.2.2.2⟩, ⟨⟨?_, ?_⟩, ⟨?_, fun i hi => ?_⟩, MCR_hi (fun b j x => ?_) hM.2.2.1, MSR_fr ?_ (fun b j hb => ?_) hM.2.2.2⟩, ⟨Or.inl ⟨rfl, rfl⟩, by omega⟩, ⟨?_, fun z hz => ?_⟩, hV.2.2⟩
  · repeat rw [up_ne _ _ (by omega)]
    rw [up_eq]
  · repeat rw [up_ne _ _ (by omega)]
    rw [up_eq]
  · repeat rw [up_ne _ _ (by omega)]
    exact hT1.1
  · repeat rw [up_ne _ _ (by omega)]
    exact hT1.2
  · repeat rw [up_ne _ _ (by omega)]
  · repeat rw [up_ne _ _ (by omega)]
    exact hF1 b j (by omega)
  · repeat rw [up_ne _ _ (by omega)]
    exact hF1 b j (by omega)
  · repeat rw [up_ne _ _ (by omega)]
    rw [up_eq]; rfl
  · repeat rw [up_ne _ _ (by omega)]
    rw [up_eq]; rfl
  · rw [up_eq, List.length_append]; rfl
  · rw [List.length_append] at hi
    have hi : i < D.length + 1 := hi
    by_cases c0 : i = D.length
    · rw [c0, gt_last, up_ne1 _ _ (by decide), up_ne1 _ _ (by decide), up_eq, up_ne1 _ _ (by decide), up_eq]; exact ⟨rfl, rfl⟩
    · rw [gt_app _ _ (by omega)]
      have hx := hM.2.1.2 i (by omega)
      refine ⟨?_, ?_⟩
      · repeat rw [up_ne _ _ (by omega)]
        rw [hF1 _ _ (by decide)]; exact hx.1
      · repeat rw [up_ne _ _ (by omega)]
        rw [hF1 _ _ (by decide)]; exact hx.2
  · repeat rw [up_ne _ _ (by omega)]
    exact hF1 b j (by omega)
  · repeat rw [up_ne _ _ (by omega)]
    exact hF1 _ _ (by decide)
  · repeat rw [up_ne _ _ (by omega)]
    exact hF1 b j (by omega)
  · rw [List.length_append]; show D.length + 1 ≤ 6; omega
  · rcases List.mem_append.mp hz with hz | hz
    · exact hV.2.1.2 z hz
    · rw [List.mem_singleton.mp hz]; exact ⟨hVw, hg5⟩
end OPS
