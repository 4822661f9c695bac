/-! ===== what holds between the law's calls; the calls by it ===== -/
def VWk (w : Int) (k : Nat) : Prop := 0 ≤ w ∧ w < 32 ^ k
theorem p32 : ∀ k, k < 6 → (32 : Int) ^ k ≤ 33554432 := by decide
theorem p32b : ∀ k, k < 7 → (32 : Int) ^ k ≤ 1073741824 := by decide
theorem VWk_app {w c : Int} {k : Nat} (h : VWk w k) (hc : 1 ≤ c ∧ c ≤ 26) : VWk (w * 2 ^ 5 + c) (k + 1) := by
  have p5 : (2 : Int) ^ 5 = 32 := rfl
  rw [p5]
  obtain ⟨h1, h2⟩ := h
  refine ⟨by omega, ?_⟩
  rw [Int.pow_succ]; omega
theorem VWk_bd {w : Int} {k : Nat} (h : VWk w k) (hk : k ≤ 6) : 0 ≤ w ∧ w < 2147483648 := by
  have := p32b k (by omega)
  have := h.2
  exact ⟨h.1, by omega⟩
theorem VWk_sm {w : Int} {k : Nat} (h : VWk w k) (hk : k < 6) : w < 33554432 := by
  have := p32 k hk
  have := h.2
  omega
theorem VWk_0 : VWk 0 0 := ⟨by decide, by decide⟩
def RX (m : mMM) (w : Int) (k : Nat) (C : List Tx) (D : List (Int × Nat)) (S : List (Int × Int)) : Prop := RT m w k ∧ RC m C D ∧ RS m S ∧ LB9 m
def VA (w : Int) (k : Nat) (C : List Tx) (D : List (Int × Nat)) (S : List (Int × Int)) : Prop := (VWk w k ∧ k ≤ 6) ∧ (D.length ≤ 6 ∧ WT D) ∧ VC C ∧ VS S
def IV (m : mMM) (w : Int) (k : Nat) (C : List Tx) (D : List (Int × Nat)) (S : List (Int × Int)) : Prop := RX m w k C D S ∧ VA w k C D S
theorem RX_fr {m m' : mMM} {w : Int} {k : Nat} {C : List Tx} {D : List (Int × Nat)} {S : List (Int × Int)} (h : ∀ b j, b ≤ 77 → m' b j = m b j) (hl : LB9 m') (hr : RX m w k C D S) : RX m' w k C D S :=
  ⟨RT_fr (fun b j hb => h b j (by omega)) hr.1, RC_fr (fun b j _ hb => h b j (by omega)) hr.2.1, RS_fr (fun b j _ hb => h b j (by omega)) hr.2.2.1, hl⟩
/-- what a question leaves -/
def Kp (m m' : mMM) : Prop := LB9 m' ∧ ∀ b j, (b < 80 ∨ 190 ≤ b) → m' b j = m b j
theorem IV_kp {m m' : mMM} {w : Int} {k : Nat} {C : List Tx} {D : List (Int × Nat)} {S : List (Int × Int)} (h : IV m w k C D S) (hk : Kp m m') : IV m' w k C D S :=
  ⟨RX_fr (fun b j hb => hk.2 b j (by omega)) hk.1 h.1, h.2⟩
theorem Kp_self {m : mMM} (h : LB9 m) : Kp m m := ⟨h, fun _ _ _ => rfl⟩
theorem Kp_tr {m1 m2 m3 : mMM} (h1 : Kp m1 m2) (h2 : Kp m2 m3) : Kp m1 m3 := ⟨h2.1, fun b j h => (h2.2 b j h).trans (h1.2 b j h)⟩
/-- what a call changes lies below the law's arrays -/
def Hi (m m' : mMM) : Prop := ∀ b j, 190 ≤ b → m' b j = m b j
theorem Kp_hi {m m' : mMM} (h : Kp m m') : Hi m m' := fun b j hb => h.2 b j (Or.inr hb)
theorem Hi_tr {m1 m2 m3 : mMM} (h1 : Hi m1 m2) (h2 : Hi m2 m3) : Hi m1 m3 := fun b j h => (h2 b j h).trans (h1 b j h)
/-- the law's own arrays may be written -/
theorem IV_up {m : mMM} {w : Int} {k : Nat} {C : List Tx} {D : List (Int × Nat)} {S : List (Int × Int)} (h : IV m w k C D S) {a i : Nat} {v : Int} (ha : 190 ≤ a) : IV (up m a i v) w k C D S :=
  ⟨RX_fr (fun b j hb => up_ne1 _ _ (by omega)) (LB9_fr (fun b j _ hb => up_ne1 _ _ (by omega)) h.1.2.2.2) h.1, h.2⟩
theorem gt0_lt {D : List (Int × Nat)} (h : WT D) (h0 : 0 < D.length) : (gt D 0).2 < 5 := (h _ (gt_mem h0)).2.2
theorem set_VC {C : List Tx} {i : Nat} (hi : i < C.length) (b : Bool) (h : VC C) : VC (C.set i ((gc C i).1, b)) := by
  refine ⟨by rw [List.length_set]; exact h.1, fun x hx => ?_⟩
  rcases List.mem_or_eq_of_mem_set hx with hx | rfl
  · exact h.2 x hx
  · exact h.2 (gc C i) (gc_mem hi)
theorem set_self {C : List Tx} {i : Nat} (hi : i < C.length) {b : Bool} (hb : (gc C i).2 = b) : C.set i ((gc C i).1, b) = C := by
  rw [← hb, show ((gc C i).1, (gc C i).2) = gc C i from rfl, gc_get C hi, List.set_getElem_self]
section QOP
variable {L : Nat} {xs : Nat → Int32} {t : Bool × Nat × Nat} {m : mMM} {w : Int} {k : Nat} {C : List Tx} {D : List (Int × Nat)} {S : List (Int × Int)} {d : Nat}
theorem q_letter (hI : IV m w k C D S) (hk : k < 6) {c : Int} (hc : 97 ≤ c ∧ c ≤ 122) (hd : 9 ≤ d) : ∃ (w' : Int) (m' : mMM), Ev (PP L xs) (d + 2) 92 0 (entL 5 [vR (some 1), vI 0, vI c, vI 0]) [] (HS t m) (.inl (some (vI ((k + 1 : Nat) : Int)))) (HS t m') ∧ IV m' w' (k + 1) C D S ∧ Hi m m' := by
  obtain ⟨hX, hV⟩ := hI
  have ht := hX.1
  have h1 := x_letter0 (L := L) (xs := xs) (t := t) (m := m) (c := c % 65536) (by omega) (by rw [ht.1]; exact hV.1.1.1) (by rw [ht.1]; exact VWk_sm hV.1.1 hk) (by rw [ht.2]; omega) (by rw [ht.2]; omega)
  rw [ht.1, ht.2] at h1
  have ha := VWk_app hV.1.1 (c := c % 65536 - 97 + 1) (by omega)
  refine ⟨_, _, k_letter (a := c) (b := 0) h1 hd, ⟨⟨⟨?_, ?_⟩, RC_fr (fun b j x y => ?_) hX.2.1, RS_fr (fun b j x y => ?_) hX.2.2.1, LB9_fr (fun b j x y => ?_) hX.2.2.2⟩, ⟨ha, by omega⟩, hV.2⟩, fun b j hb => ?_⟩
  · rw [up_ne2 _ _ (by decide), up_eq]
  · rw [up_eq]; rfl
  · repeat rw [up_ne _ _ (by omega)]
  · repeat rw [up_ne _ _ (by omega)]
  · repeat rw [up_ne _ _ (by omega)]
  · repeat rw [up_ne _ _ (by omega)]
theorem q_tag0 (hI : IV m w k C D S) (hk : 0 < k) {g : Nat} (hg : g < 5) (hd6 : D.length < 6) (hd : 9 ≤ d) : ∃ m' : mMM, Ev (PP L xs) (d + 2) 92 0 (entL 5 [vR (some 1), vI 1, vI ((g : Nat) : Int), vI 0]) [] (HS t m) (.inl (some (vI ((D.length + 1 : Nat) : Int)))) (HS t m') ∧ IV m' 0 0 C (D ++ [(w, g)]) S ∧ Hi m m' := by
  obtain ⟨hX, hV⟩ := hI
  have ht := hX.1
  have hk6 := hV.1.2
  have hC := hX.2.1
  have hn := hC.1.1
  have hn20 := hC.1.2.1
  have hz := hC.2.1.1.1
  have e12 : tx C.length = 12 + 3 * C.length := rfl
  have h1 := x_tag0 (L := L) (xs := xs) (t := t) (m := m) hg (by rw [ht.2]; omega) hn hn20 hz hd6
  rw [ht.1] at h1
  have hF0 : ∀ b j, b ≠ 2 → (up (up m 2 0 0) 2 1 0) b j = m b j := fun b j hb => by rw [up_ne1 _ _ hb, up_ne1 _ _ hb]
  have hRC := RC_tag (w := w) (g := g) (RC_fr (fun b j x y => hF0 b j (by omega)) hC) hd6
  have hwb := VWk_bd hV.1.1 hk6
  refine ⟨_, k_tag (a := ((g : Nat) : Int)) (b := 0) h1 hd, ⟨⟨⟨?_, ?_⟩, hRC, RS_fr (fun b j x y => ?_) hX.2.2.1, LB9_fr (fun b j x y => ?_) hX.2.2.2⟩, ⟨VWk_0, by omega⟩, ⟨?_, fun z hz => ?_⟩, hV.2.2⟩, fun b j hb => ?_⟩
  · rw [up_ne1 _ _ (by omega), up_ne1 _ _ (by omega), up_ne1 _ _ (by omega), up_ne2 _ _ (by decide), up_eq]
  · rw [up_ne1 _ _ (by omega), up_ne1 _ _ (by omega), up_ne1 _ _ (by omega), up_eq]; rfl
  · rw [up_ne1 _ _ (by omega), up_ne1 _ _ (by omega), up_ne1 _ _ (by omega), hF0 b j (by omega)]
  · rw [up_ne1 _ _ (by omega), up_ne1 _ _ (by omega), up_ne1 _ _ (by omega), hF0 b j (by omega)]
  · rw [List.length_append]; show D.length + 1 ≤ 6; omega
  · rcases List.mem_append.mp hz with hz | hz
    · exact hV.2.1.2 z hz
    · rw [List.mem_singleton.mp hz]; exact ⟨hwb.1, hwb.2, hg⟩
  · rw [up_ne1 _ _ (by omega), up_ne1 _ _ (by omega), up_ne1 _ _ (by omega), hF0 b j (by omega)]
theorem q_tagX (hI : IV m w k C D S) (hk : 0 < k) {g : Nat} (hg : g < 5) (hd6 : D.length = 6) (hd : 9 ≤ d) : Ev (PP L xs) (d + 2) 92 0 (entL 5 [vR (some 1), vI 1, vI ((g : Nat) : Int), vI 0]) [] (HS t m) (.inl (some (vI (-1013)))) (HS (tt t) m) := by
  obtain ⟨hX, hV⟩ := hI
  have ht := hX.1
  have hk6 := hV.1.2
  have hC := hX.2.1
  exact kx_tag (x_tagX3 hg (by rw [ht.2]; omega) hC.1.1 hC.1.2.1 hC.2.1.1.1 hd6) rfl hd
theorem q_add0 (hI : IV m w k C D S) (h0 : 0 < D.length) (hc20 : C.length < 20) (hd : 9 ≤ d) : ∃ m' : mMM, Ev (PP L xs) (d + 2) 92 0 (entL 5 [vR (some 1), vI 2, vI 0, vI 0]) [] (HS t m) (.inl (some (vI ((C.length : Nat) : Int)))) (HS t m') ∧ IV m' w k (C ++ [(D, true)]) [] S ∧ Hi m m' := by
  obtain ⟨hX, hV⟩ := hI
  have hC := hX.2.1
  have hn := hC.1.1
  have e12 : tx C.length = 12 + 3 * C.length := rfl
  have hg0 := gt0_lt hV.2.1.2 h0
  obtain ⟨m1, hE1, hs1, hF1⟩ := x_add0 (L := L) (xs := xs) (t := t) hn hc20 h0 hV.2.1.2 hC.2.1.1 hC.2.2.2.2.2 hC.2.1.2
  have hRC := RC_add hC hc20 hg0 hs1 hF1
  have hG1 : ∀ b j, (b = 2 ∨ 75 ≤ b) → m1 b j = m b j := fun b j hb => by
    rw [hF1 b j (by omega), up_ne1 _ _ (by omega), up_ne1 _ _ (by omega), up_ne1 _ _ (by omega), up_ne1 _ _ (by omega)]
  have hl : (C ++ [(D, true)]).length = C.length + 1 := by rw [List.length_append]; rfl
  refine ⟨m1, k_add (a := 0) (b := 0) hE1 hd, ⟨⟨RT_fr (fun b j hb => hG1 b j (by omega)) hX.1, hRC, RS_fr (fun b j x y => hG1 b j (by omega)) hX.2.2.1, LB9_fr (fun b j x y => hG1 b j (by omega)) hX.2.2.2⟩, hV.1, ⟨Nat.zero_le _, fun z hz => absurd hz List.not_mem_nil⟩, ⟨by rw [hl]; omega, fun x hx => ?_⟩, hV.2.2.2⟩, fun b j hb => hG1 b j (by omega)⟩
  rcases List.mem_append.mp hx with hx | hx
  · exact hV.2.2.1.2 x hx
  · rw [List.mem_singleton.mp hx]; exact ⟨h0, hV.2.1.1, hV.2.1.2⟩
theorem q_addX (hI : IV m w k C D S) (h0 : D.length = 0 ∨ C.length = 20) (hd : 9 ≤ d) : Ev (PP L xs) (d + 2) 92 0 (entL 5 [vR (some 1), vI 2, vI 0, vI 0]) [] (HS t m) (.inl (some (vI (-1013)))) (HS (tt t) m) := by
  obtain ⟨hX, hV⟩ := hI
  have hC := hX.2.1
  have hn := hC.1.1
  have hn20 := hC.1.2.1
  have hz := hC.2.1.1.1
  by_cases hd0 : D.length = 0
  · exact kx_add (x_addX1 hn hn20 (by rw [hz, hd0]; rfl)) rfl hd
  · exact kx_add (x_addX2 hn (by omega) hz hV.2.1.1 (by omega)) rfl hd
theorem q_text (hI : IV m w k C D S) {i : Nat} (hi : i < C.length) (b : Bool) (hd : 9 ≤ d) : ∃ (v : Int) (m' : mMM), ((v = 0 ∧ (gc C i).2 = false) ∨ (v = 1 ∧ (gc C i).2 = true)) ∧ Ev (PP L xs) (d + 2) 92 0 (entL 5 [vR (some 1), vI 3, vI ((i : Nat) : Int), vI (if b then 1 else 0)]) [] (HS t m) (.inl (some (vI v))) (HS t m') ∧ IV m' w k (C.set i ((gc C i).1, b)) D S ∧ Hi m m' := by
  obtain ⟨hX, hV⟩ := hI
  have hC := hX.2.1
  have hn := hC.1.1
  have hn20 := hC.1.2.1
  have hci := (hC.1.2.2 i hi)
  have hxi := hV.2.2.1.2 _ (gc_mem hi)
  have hg0 : (gt (gc C i).1 0).2 < 5 := gt0_lt hxi.2.2 hxi.1
  have e12 : tx i = 12 + 3 * i := rfl
  have fin : ∀ m1 : mMM, RC m1 (C.set i ((gc C i).1, b)) D → (∀ c j, (c = 2 ∨ 75 ≤ c) → m1 c j = m c j) → IV m1 w k (C.set i ((gc C i).1, b)) D S ∧ Hi m m1 := fun m1 hRC hG1 =>
    ⟨⟨⟨RT_fr (fun c j hb => hG1 c j (by omega)) hX.1, hRC, RS_fr (fun c j x y => hG1 c j (by omega)) hX.2.2.1, LB9_fr (fun c j x y => hG1 c j (by omega)) hX.2.2.2⟩, hV.1, hV.2.1, set_VC hi b hV.2.2.1, hV.2.2.2⟩, fun c j hb => hG1 c j (by omega)⟩
  cases b with
  | false =>
    cases hb : (gc C i).2 with
    | true =>
      rw [hb] at hci
      obtain ⟨m1, hE1, hs1, hF1⟩ := x_text0 (L := L) (xs := xs) (t := t) hn hn20 hi hxi.1 hxi.2.2 hci.1 hC.2.2.2.2.2 hci.2
      have hRC := RC_text hC hi false (by rw [hb]; rfl) hg0 hs1 hF1
      exact ⟨1, m1, Or.inr ⟨rfl, rfl⟩, k_text01 hE1 hd, fin m1 hRC (fun b j hx => by
        rw [hF1 b j (by omega), up_ne1 _ _ (by omega), up_ne1 _ _ (by omega), up_ne1 _ _ (by omega)])⟩
    | false =>
      rw [hb] at hci
      exact ⟨0, m, Or.inl ⟨rfl, rfl⟩, k_text00 (x_textS0 hn hn20 hi hci.2) hd, fin m (by rw [set_self hi hb]; exact hC) (fun _ _ _ => rfl)⟩
  | true =>
    cases hb : (gc C i).2 with
    | false =>
      rw [hb] at hci
      obtain ⟨m1, hE1, hs1, hF1⟩ := x_text1 (L := L) (xs := xs) (t := t) hn hn20 hi hxi.1 hxi.2.2 hci.1 hC.2.2.2.2.2 hci.2
      have hRC := RC_text hC hi true (by rw [hb]; rfl) hg0 hs1 hF1
      exact ⟨0, m1, Or.inl ⟨rfl, rfl⟩, k_text10 hE1 hd, fin m1 hRC (fun b j hx => by
        rw [hF1 b j (by omega), up_ne1 _ _ (by omega), up_ne1 _ _ (by omega), up_ne1 _ _ (by omega)])⟩
    | true =>
      rw [hb] at hci
      exact ⟨1, m, Or.inr ⟨rfl, rfl⟩, k_text11 (x_textS1 hn hn20 hi hci.2) hd, fin m (by rw [set_self hi hb]; exact hC) (fun _ _ _ => rfl)⟩
theorem q_word0 (hI : IV m w k C D S) (hk : 0 < k) (h5 : S.length < 5) (hd : 9 ≤ d) : ∃ m' : mMM, Ev (PP L xs) (d + 2) 92 0 (entL 5 [vR (some 1), vI 4, vI 0, vI 0]) [] (HS t m) (.inl (some (vI ((S.length + 1 : Nat) : Int)))) (HS t m') ∧ IV m' 0 0 C D (S ++ [(w, -1)]) ∧ Hi m m' := by
  obtain ⟨hX, hV⟩ := hI
  have ht := hX.1
  have hk6 := hV.1.2
  have hn := hX.2.2.1.1
  have h1 := x_word0 (L := L) (xs := xs) (t := t) (m := m) (by rw [ht.2]; omega) hn h5
  rw [ht.1] at h1
  have hwb := VWk_bd hV.1.1 hk6
  have hl : (S ++ [(w, -1)]).length = S.length + 1 := by rw [List.length_append]; rfl
  refine ⟨_, k_word (a := 0) (b := 0) h1 hd, ⟨⟨⟨?_, ?_⟩, RC_fr (fun b j x y => ?_) hX.2.1, ⟨?_, by rw [hl]; omega, fun i hi => ?_⟩, LB9_fr (fun b j x y => ?_) hX.2.2.2⟩, ⟨VWk_0, by omega⟩, hV.2.1, hV.2.2.1, fun x hx => ?_⟩, fun b j hb => ?_⟩
  · repeat rw [up_ne _ _ (by omega)]
    rw [up_eq]
  · repeat rw [up_ne _ _ (by omega)]
    rw [up_eq]; rfl
  · repeat rw [up_ne _ _ (by omega)]
  · repeat rw [up_ne _ _ (by omega)]
    rw [up_eq, hl]
  · rw [hl] at hi
    by_cases c0 : i = S.length
    · subst c0
      rw [gs_last]
      refine ⟨?_, ?_⟩
      · repeat rw [up_ne _ _ (by omega)]
        rw [up_eq]
      · repeat rw [up_ne _ _ (by omega)]
        rw [up_eq]
    · rw [gs_app _ _ (by omega)]
      have hx := hX.2.2.1.2.2 i (by omega)
      refine ⟨?_, ?_⟩
      · repeat rw [up_ne _ _ (by omega)]
        exact hx.1
      · repeat rw [up_ne _ _ (by omega)]
        exact hx.2
  · repeat rw [up_ne _ _ (by omega)]
  · rcases List.mem_append.mp hx with hx | hx
    · exact hV.2.2.2 x hx
    · rw [List.mem_singleton.mp hx]; exact ⟨hwb.1, hwb.2, by show (-1 : Int) ≤ -1; decide, by show (-1 : Int) < 5; decide⟩
  · repeat rw [up_ne _ _ (by omega)]
theorem q_wordX (hI : IV m w k C D S) (hk : 0 < k) (h5 : S.length = 5) (hd : 9 ≤ d) : Ev (PP L xs) (d + 2) 92 0 (entL 5 [vR (some 1), vI 4, vI 0, vI 0]) [] (HS t m) (.inl (some (vI (-1013)))) (HS (tt t) m) := by
  obtain ⟨hX, hV⟩ := hI
  have ht := hX.1
  have hk6 := hV.1.2
  exact kx_word (x_wordX2 (by rw [ht.2]; omega) (by rw [hX.2.2.1.1, h5]; rfl)) rfl hd
theorem q_lock0 (hI : IV m w k C D S) {p : Nat} (hp : p < S.length) {e : Int} (he : -1 ≤ e ∧ e < 5) (hd : 9 ≤ d) : ∃ m' : mMM, Ev (PP L xs) (d + 2) 92 0 (entL 5 [vR (some 1), vI 5, vI ((p : Nat) : Int), vI e]) [] (HS t m) (.inl (some (vI (gs S p).2))) (HS t m') ∧ IV m' w k C D (S.set p ((gs S p).1, e)) ∧ Hi m m' := by
  obtain ⟨hX, hV⟩ := hI
  have hs := hX.2.2.1
  have hxs := hs.2.2 p hp
  have hvs := hV.2.2.2 _ (gs_mem hp)
  have h1 : Ev (PP L xs) 9 68 0 (entL 3 [vR (some 1), vI ((p : Nat) : Int), vI e]) [] (HS t m) (.inl (some (vI (m 77 p)))) (HS t (up m 77 p e)) := by
    by_cases h3 : e = -1
    · subst h3; exact x_lockN hs.1 hs.2.1 hp
    · obtain ⟨g, rfl⟩ := Int.eq_ofNat_of_zero_le (show 0 ≤ e by omega)
      exact x_lockG hs.1 hs.2.1 hp (by omega)
  rw [hxs.2] at h1
  have hl : (S.set p ((gs S p).1, e)).length = S.length := List.length_set
  refine ⟨_, k_lock h1 hd, ⟨⟨RT_fr (fun b j hb => ?_) hX.1, RC_fr (fun b j x y => ?_) hX.2.1, ⟨?_, by rw [hl]; exact hs.2.1, fun i hi => ?_⟩, LB9_fr (fun b j x y => ?_) hX.2.2.2⟩, hV.1, hV.2.1, hV.2.2.1, fun x hx => ?_⟩, fun b j hb => ?_⟩
  · rw [up_ne1 _ _ (by omega)]
  · rw [up_ne1 _ _ (by omega)]
  · rw [up_ne1 _ _ (by omega), hl]; exact hs.1
  · rw [hl] at hi
    have hx := hs.2.2 i hi
    rw [gs_set _ _ hp]
    by_cases c0 : i = p
    · subst c0
      rw [if_pos rfl]
      exact ⟨by rw [up_ne1 _ _ (by omega)]; exact hx.1, by rw [up_eq]⟩
    · rw [if_neg c0]
      exact ⟨by rw [up_ne1 _ _ (by omega)]; exact hx.1, by rw [up_ne2 _ _ c0]; exact hx.2⟩
  · rw [up_ne1 _ _ (by omega)]
  · rcases List.mem_or_eq_of_mem_set hx with hx | rfl
    · exact hV.2.2.2 x hx
    · exact ⟨hvs.1, hvs.2.1, he.1, he.2⟩
  · rw [up_ne1 _ _ (by omega)]
theorem q_lockX (hI : IV m w k C D S) {p : Nat} (hp : S.length ≤ p) (hp9 : p < 1000) (e : Int) (hd : 9 ≤ d) : Ev (PP L xs) (d + 2) 92 0 (entL 5 [vR (some 1), vI 5, vI ((p : Nat) : Int), vI e]) [] (HS t m) (.inl (some (vI (-1011)))) (HS (tt t) m) := by
  obtain ⟨hX, hV⟩ := hI
  have hs := hX.2.2.1
  exact kx_lock (x_lockX1 hs.1 hs.2.1 (inI_of (by omega) (by omega)) (by omega)) rfl hd
def woW (C : List Tx) (w : Int) (g : Nat) : Int := wF (facF (foW C w).1) ((foW C w).2 g)
theorem hW_of (hV : VC C) : ∀ i, i < C.length → WT (gc C i).1 := fun i hi => (hV.2 _ (gc_mem hi)).2.2
theorem q_weight (hI : IV m w k C D S) (hk : 0 < k) {g : Nat} (hg : g < 5) (hd : 9 ≤ d) : ∃ m' : mMM, Ev (PP L xs) (d + 2) 92 0 (entL 5 [vR (some 1), vI 6, vI ((g : Nat) : Int), vI 0]) [] (HS t m) (.inl (some (vI (woW C w g)))) (HS t m') ∧ Kp m m' := by
  obtain ⟨hX, hV⟩ := hI
  have ht := hX.1
  have hk6 := hV.1.2
  have hwb := VWk_bd hV.1.1 hk6
  have hC := hV.2.2.1
  obtain ⟨m1, h1, hF⟩ := x_weight0 (L := L) (xs := xs) (t := t) (m := m) hg (by rw [ht.2]; omega) (by rw [ht.1]; exact hwb.1) (by rw [ht.1]; exact hwb.2) (hW_of hC) (fun w' k' _ => ⟨(foW_bd hC w' k').1, by have := (foW_bd hC w' k').2; omega⟩) hX.2.1.1
  rw [ht.1] at h1
  exact ⟨m1, k_weight h1 hd, LB9_fr (fun b j x y => hF b j (by omega)) hX.2.2.2, fun b j hb => hF b j (by omega)⟩
theorem q_weightX (hI : IV m w 0 C D S) (hd : 9 ≤ d) : Ev (PP L xs) (d + 2) 92 0 (entL 5 [vR (some 1), vI 6, vI 0, vI 0]) [] (HS t m) (.inl (some (vI (-1013)))) (HS (tt t) m) := by
  obtain ⟨hX, hV⟩ := hI
  exact kx_weight (x_weightX1 (g := 0) (by decide) (by rw [hX.1.2]; rfl)) rfl hd
theorem q_stepN (hI : IV m w k C D S) {g : Nat} (hg : g < 5) (hd : 9 ≤ d) : Ev (PP L xs) (d + 2) 92 0 (entL 5 [vR (some 1), vI 7, vI (-1), vI ((g : Nat) : Int)]) [] (HS t m) (.inl (some (vI (mn7 (sC (fsN g) C))))) (HS t m) := by
  obtain ⟨hX, hV⟩ := hI
  have hC := hV.2.2.1
  have e5 := hX.2.1.2.2.2.2.1 g hg
  have hb := fs_bd hC g
  have h4 := x_stepN (L := L) (xs := xs) (t := t) (m := m) hg (by rw [e5]; omega) (by rw [e5]; omega)
  rw [e5] at h4
  exact k_step h4 hd
theorem q_stepG (hI : IV m w k C D S) {f g : Nat} (hf : f < 5) (hg : g < 5) (hd : 9 ≤ d) : Ev (PP L xs) (d + 2) 92 0 (entL 5 [vR (some 1), vI 7, vI ((f : Nat) : Int), vI ((g : Nat) : Int)]) [] (HS t m) (.inl (some (vI (mn7 (sC (prN f g) C))))) (HS t m) := by
  obtain ⟨hX, hV⟩ := hI
  have hC := hV.2.2.1
  have e5 : m (7 + f) g = sC (prN f g) C := hX.2.1.2.2.2.2.2 f hf g hg
  have hb := pr_bd hC f g
  have h4 := x_stepG (L := L) (xs := xs) (t := t) (m := m) (g := f) (h := g) hf hg (by rw [e5]; omega) (by rw [e5]; omega)
  rw [e5] at h4
  exact k_step h4 hd
theorem q_path (hI : IV m w k C D S) {r p : Nat} (hr : r < 10) (hp : p < S.length) (hd : 9 ≤ d) : ∃ m' : mMM, Ev (PP L xs) (d + 2) 92 0 (entL 5 [vR (some 1), vI 8, vI ((r : Nat) : Int), vI ((p : Nat) : Int)]) [] (HS t m) (.inl (some (vI (spPath C S r p)))) (HS t m') ∧ Kp m m' := by
  obtain ⟨hX, hV⟩ := hI
  obtain ⟨m1, h1, hl, hF⟩ := x_path (L := L) (xs := xs) (t := t) (k := r) (p := p) hV.2.2.1 hV.2.2.2 hX.2.1 hX.2.2.1 hX.2.2.2 hr hp
  exact ⟨m1, k_path h1 hd, hl, fun b j hb => hF b j (by omega)⟩
theorem q_pathX (hI : IV m w k C D S) {r p : Nat} (hp : S.length ≤ p) (hp9 : p < 1000) (hd : 9 ≤ d) : Ev (PP L xs) (d + 2) 92 0 (entL 5 [vR (some 1), vI 8, vI ((r : Nat) : Int), vI ((p : Nat) : Int)]) [] (HS t m) (.inl (some (vI (-1011)))) (HS (tt t) m) := by
  obtain ⟨hX, hV⟩ := hI
  exact kx_path (x_pathX1 hX.2.2.1 (inI_of (by omega) (by omega)) (by omega)) rfl hd
theorem q_pathAnew (hI : IV m w k C D S) {r p : Nat} (hr : r < 10) (hp : p < S.length) (hd : 9 ≤ d) : ∃ m' : mMM, Ev (PP L xs) (d + 2) 92 0 (entL 5 [vR (some 1), vI 9, vI ((r : Nat) : Int), vI ((p : Nat) : Int)]) [] (HS t m) (.inl (some (vI (spPath C S r p)))) (HS t m') ∧ Kp m m' := by
  obtain ⟨hX, hV⟩ := hI
  obtain ⟨m1, h1, hl, hF⟩ := x_pathAnew (L := L) (xs := xs) (t := t) (k := r) (p := p) hV.2.2.1 hV.2.2.2 hX.2.1 hX.2.2.1 hX.2.2.2 hr hp
  exact ⟨m1, k_pathAnew h1 hd, hl, fun b j hb => hF b j (by omega)⟩
theorem q_share (hI : IV m w k C D S) {p g : Nat} (hp : p < S.length) (hg : g < 5) (hd : 9 ≤ d) : ∃ m' : mMM, Ev (PP L xs) (d + 2) 92 0 (entL 5 [vR (some 1), vI 10, vI ((p : Nat) : Int), vI ((g : Nat) : Int)]) [] (HS t m) (.inl (some (vI (spShare C S p g)))) (HS t m') ∧ Kp m m' := by
  obtain ⟨hX, hV⟩ := hI
  obtain ⟨m1, h1, hl, hF⟩ := x_share (L := L) (xs := xs) (t := t) (p := p) (g := g) hV.2.2.1 hV.2.2.2 hX.2.1 hX.2.2.1 hX.2.2.2 hp hg
  exact ⟨m1, k_share h1 hd, hl, fun b j hb => hF b j (by omega)⟩
theorem q_shareAnew (hI : IV m w k C D S) {p g : Nat} (hp : p < S.length) (hg : g < 5) (hd : 9 ≤ d) : ∃ m' : mMM, Ev (PP L xs) (d + 2) 92 0 (entL 5 [vR (some 1), vI 11, vI ((p : Nat) : Int), vI ((g : Nat) : Int)]) [] (HS t m) (.inl (some (vI (spShare C S p g)))) (HS t m') ∧ Kp m m' := by
  obtain ⟨hX, hV⟩ := hI
  obtain ⟨m1, h1, hl, hF⟩ := x_shareAnew (L := L) (xs := xs) (t := t) (p := p) (g := g) hV.2.2.1 hV.2.2.2 hX.2.1 hX.2.2.1 hX.2.2.2 hp hg
  exact ⟨m1, k_shareAnew h1 hd, hl, fun b j hb => hF b j (by omega)⟩
theorem q_clear (hI : IV m w k C D S) (hd : 9 ≤ d) : ∃ m' : mMM, Ev (PP L xs) d 67 0 (entL 1 [vR (some 1)]) [] (HS t m) (.inl (some (vI ((S.length : Nat) : Int)))) (HS t m') ∧ IV m' w k C D [] ∧ Hi m m' := by
  obtain ⟨hX, hV⟩ := hI
  have h1 := x_clear (L := L) (xs := xs) (t := t) (m := m)
  rw [hX.2.2.1.1] at h1
  refine ⟨_, ev_to h1 hd, ⟨⟨RT_fr (fun b j hb => up_ne1 _ _ (by omega)) hX.1, RC_fr (fun b j x y => up_ne1 _ _ (by omega)) hX.2.1, ⟨?_, Nat.zero_le _, fun i hi => absurd hi (Nat.not_lt_zero i)⟩, LB9_fr (fun b j x y => up_ne1 _ _ (by omega)) hX.2.2.2⟩, hV.1, hV.2.1, hV.2.2.1, fun x hx => absurd hx List.not_mem_nil⟩, fun b j hb => up_ne1 _ _ (by omega)⟩
  rw [up_eq]; rfl
theorem q_texts (hI : IV m w k C D S) (hd : 9 ≤ d) : ∃ v : Int, (0 ≤ v ∧ v ≤ (C.length : Int)) ∧ Ev (PP L xs) d 77 0 (entL 1 [vR (some 1)]) [] (HS t m) (.inl (some (vI v))) (HS t m) := by
  obtain ⟨hX, hV⟩ := hI
  have h1 := x_texts (L := L) (xs := xs) (t := t) (m := m)
  rw [hX.2.1.2.2.2.1] at h1
  have h2 := sC_bd (fun _ => 1) 1 (by decide) C (fun x _ => ⟨by decide, by decide⟩)
  exact ⟨_, ⟨h2.1, by have := h2.2; omega⟩, ev_to h1 hd⟩
theorem q_product (hI : IV m w k C D S) {r : Nat} (hr : r < 10) (h0 : 0 < S.length) (hd : 9 ≤ d) : ∃ m' : mMM, Ev (PP L xs) d 73 0 (entL 2 [vR (some 1), vI ((r : Nat) : Int)]) [] (HS t m) (.inl (some (vJ (spProd C S r)))) (HS t m') ∧ Kp m m' := by
  obtain ⟨hX, hV⟩ := hI
  obtain ⟨m1, h1, hl, hF⟩ := x_product (L := L) (xs := xs) (t := t) (k := r) hV.2.2.1 hV.2.2.2 hX.2.1 hX.2.2.1 hX.2.2.2 hr h0
  exact ⟨m1, ev_to h1 hd, hl, fun b j hb => hF b j (by omega)⟩
theorem q_cost (hI : IV m w k C D S) (h0 : 0 < S.length) (hd : 9 ≤ d) : ∃ m' : mMM, Ev (PP L xs) d 74 0 (entL 1 [vR (some 1)]) [] (HS t m) (.inl (some (vI (dbF 60 (spProd C S 0))))) (HS t m') ∧ Kp m m' := by
  obtain ⟨hX, hV⟩ := hI
  obtain ⟨m1, h1, hl, hF⟩ := x_cost (L := L) (xs := xs) (t := t) hV.2.2.1 hV.2.2.2 hX.2.1 hX.2.2.1 hX.2.2.2 h0
  exact ⟨m1, ev_to h1 hd, hl, fun b j hb => hF b j (by omega)⟩
end QOP
