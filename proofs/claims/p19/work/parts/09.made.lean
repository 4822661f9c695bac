/-! ===== what is made ===== -/
section SOM
variable {P : Nat → mMD} {B b L : Nat} {xs : Nat → Int32} {D : va_G} {aC : Nat → ClassId} {p : Program} {l : Launch} {e : Env} {R : Room} {s : State} {m : MethodId} {args : Array Value} {below : List Frame} {meth : Method} {c : Code} {md : mMD} {d c0 s0 : Nat} {Q : State → Prop} {pc : Nat}

theorem nb_eq (n : Nat) : Nat.beq n n = true := Nat.beq_refl n
theorem nb_ne {a n : Nat} (h : a ≠ n) : Nat.beq a n = false := by
  cases q : Nat.beq a n with
  | false => rfl
  | true => exact absurd (Nat.eq_of_beq_eq_true q) h
theorem blt_t {a n : Nat} (h : a < n) : Nat.blt a n = true := Nat.ble_eq.mpr h
theorem blt_f {a n : Nat} (h : n ≤ a) : Nat.blt a n = false := by
  cases q : Nat.blt a n with
  | false => rfl
  | true => exact absurd (Nat.ble_eq.mp q) (by omega)
theorem gd_1 {α : Type} {l : List α} {n j : Nat} {x d : α} (h : l.length = n) : (l ++ [x]).getD j d = if j = n then x else l.getD j d := by
  subst h
  rw [List.getD_eq_getElem?_getD, List.getD_eq_getElem?_getD]
  by_cases q : j < l.length
  · rw [List.getElem?_append_left q, if_neg (by omega)]
  · by_cases z : j = l.length
    · subst z; simp
    · rw [if_neg z, List.getElem?_eq_none (by simp; omega), List.getElem?_eq_none (by omega)]
theorem gd_N {α : Type} {l : List α} {n N j : Nat} {x y d : α} (h : l.length = n) : (l ++ x :: List.replicate N y).getD j d = if j < n then l.getD j d else if j = n then x else if j < n + 1 + N then y else d := by
  subst h
  rw [List.getD_eq_getElem?_getD, List.getD_eq_getElem?_getD]
  by_cases q : j < l.length
  · rw [List.getElem?_append_left q, if_pos q]
  · rw [if_neg q, List.getElem?_append_right (by omega)]
    by_cases z : j = l.length
    · subst z; simp
    · rw [if_neg z]
      obtain ⟨i, hi⟩ : ∃ i, j - l.length = i + 1 := ⟨j - l.length - 1, by omega⟩
      rw [hi, List.getElem?_cons_succ, List.getElem?_replicate]
      by_cases w : i < N
      · rw [if_pos w, if_pos (by omega)]; rfl
      · rw [if_neg w, if_neg (by omega)]; rfl
theorem al_Kj {h : mMH} {H : Heap} (hH : HR B b D aC h H) {k : Nat × Nat} {sl j : Nat} : mK (alloc h k sl) j = if j = mN h then k else mK h j := gd_1 hH.2.2.2.1
theorem al_Rj {h : mMH} {H : Heap} (hH : HR B b D aC h H) {k : Nat × Nat} {sl j : Nat} : mR (alloc h k sl) j = if j = mN h then r_no else mR h j := gd_1 hH.2.2.2.2.1
theorem hr_new {h : mMH} {H H1 : Heap} {k : Nat × Nat} {sl : Nat} (hH : HR B b D aC h H) (hT : mT h = true) (hk : k.2 ≤ 1000) (hz : H1.size = H.size + 1) (ho : ∀ q : Nat, q < H.size → H1[q]? = H[q]?) (hat : va_at D vwCl (H.size, oe B b aC (alloc h k sl) (mN h)) H1) : HR B b D aC (alloc h k sl) H1 := by
  have hH0 := hH
  obtain ⟨⟨z1, z2, z3⟩, k1, c1, y1, y2, y3⟩ := hH
  have e0 := z1 hT
  refine ⟨⟨fun _ => by show H1.size = B + (mN h + 1); omega, by show B + (mN h + 1) ≤ H1.size; omega, by show 1 ≤ mN h + 1; omega⟩, fun j hj => ?_, fun j hj => ?_, by show (_ ++ [_]).length = mN h + 1; rw [List.length_append, y1]; rfl, by show (_ ++ [_]).length = mN h + 1; rw [List.length_append, y2]; rfl, fun a ha => y3 a (by have : mN h + 1 ≤ a := ha; omega)⟩
  · rw [al_Kj hH0] at hj ⊢
    by_cases q : j = mN h
    · subst q
      rw [if_pos rfl]
      exact ⟨⟨z3, by show mN h < mN h + 1; omega⟩, hk⟩
    · rw [if_neg q] at hj ⊢
      have := k1 j hj
      exact ⟨⟨this.1.1, by show j < mN h + 1; omega⟩, this.2⟩
  · by_cases q : j = mN h
    · subst q
      rw [← e0]; exact hat
    · rw [al_Kj hH0, if_neg q] at hj
      have e2 : oe B b aC (alloc h k sl) j = oe B b aC h j := by
        unfold oe; rw [al_Kj hH0, if_neg q, al_Rj hH0, if_neg q]; rfl
      rw [e2]
      have := k1 j hj
      exact (c1 j hj).kept (ho _ (by show B + j < H.size; omega))
theorem al_K {h : mMH} {H : Heap} (hH : HR B b D aC h H) {k : Nat × Nat} {sl : Nat} : mK (alloc h k sl) (mN h) = k := by
  rw [al_Kj hH, if_pos rfl]
theorem al_M {h : mMH} {H : Heap} (hH : HR B b D aC h H) {k : Nat × Nat} {sl : Nat} (j : Nat) : (alloc h k sl).2 (mN h) j = 0 := by
  show h.2 (mN h) j = 0
  rw [hH.2.2.2.2.2 _ (Nat.le_refl _)]
theorem al_R {h : mMH} {H : Heap} (hH : HR B b D aC h H) {k : Nat × Nat} {sl : Nat} (j : Nat) : mR (alloc h k sl) (mN h) j = none := by
  rw [al_Rj hH, if_pos rfl]; rfl
theorem ty_df : ∀ cn, cn < 10 → ∀ j, j < 22 → tyC cn j ≠ .float ∧ tyC cn j ≠ .double := by decide +kernel
theorem ef_0 {ty : FieldType} (h1 : ty ≠ .float) (h2 : ty ≠ .double) : defaultValue ty = eF B b ty 0 none := by
  cases ty with
  | float => exact absurd rfl h1
  | double => exact absurd rfl h2
  | _ => rfl
theorem cl_lt {cn : Nat} {q : vw_C} (h : vwCl[cn]? = some q) : cn < 10 := Nat.lt_of_lt_of_le (List.getElem?_eq_some_iff.mp h).1 (Nat.le_of_ble_eq_true rfl)
theorem cl_nF : ∀ cn, cn < 10 → nF cn ≤ 22 := by decide +kernel
theorem va_Sn {A : Nat → Prop} {H0 H H1 : Heap} {locs : List Loc} (hS : va_S A H0 H locs) (hz : H.size ≤ H1.size) (ho : ∀ q : Nat, q < H.size → H1[q]? = H[q]?) : va_S A H0 H1 locs := ⟨Nat.le_trans hS.1 hz, fun x h1 h2 => (ho x (Nat.lt_of_lt_of_le h1 hS.1)).trans (hS.2.1 x h1 h2), hS.2.2⟩
theorem hr_ad {h : mMH} {H : Heap} (hH : HR B b D aC h H) (hT : mT h = true) : Value.ref H.size = eV B b (vR (some (mN h))) := by
  show Value.ref H.size = Value.ref (adr B b (mN h))
  rw [adr_pos hH.1.2.2, hH.1.1 hT]
theorem so_new {C : String} {T : u_T} {N cn index : Nat} (X : Cx B b L xs D aC p l R s m args meth c md d) (hc : vwCl[cn]? = some (C, T, N)) (hw1 : Cond.classLink (dY md).cls index C ∈ w_all) (hw2 : Cond.instantiable C N ∈ w_all) (hw3 : Cond.initialized C ∈ w_all) (hd : decode (dB md) pc = .ok (.new index, 3)) : SO P B b L xs D aC p l e R s m args below meth c md d c0 s0 Q pc (mo_new cn N (pc + 3)) := by
  obtain ⟨hx, hb, hml, hown, hts, hlk, hst, hK, hG, hRm, htb, hnm⟩ := X
  intro lsl stl h r hf
  unfold mo_new at hf
  obtain ⟨hT, hf⟩ := bq hf
  obtain rfl := Option.some.inj hf
  obtain ⟨k1, k2, k3, k4⟩ := cls_ok cn _ hc
  refine so_nx ⟨Nat.le_succ _, Nat.le_add_right _ _⟩ fun g1 g2 kk H locs ls cells slots hH hS hl hc0 hs0 => ?_
  have g1 : mC h + 1 ≤ c0 + R.cells := g1
  have g2 : mSl h + N ≤ s0 + R.slots := g2
  have hKn := hK.1 cn _ hc
  refine W.newcK hx hb hown (hts _ hw1) (hts _ hw2) (hts _ hw3) rfl hd (by omega) (by omega) hKn.2.1 rfl fun H1 kC hkC e1 z1 o1 => ?_
  have hfs : va_at D vwCl (H.size, oe B b aC (alloc h (0, cn) N) (mN h)) H1 := by
    rw [oe_0 (al_K hH)]
    refine ⟨_, hc, (u_born (tyC cn) hts k1 hKn hkC e1 k2).to fun j hj => ?_⟩
    have hn := cl_nF cn (cl_lt hc)
    have hj' : j < nF cn := by rw [k4]; exact hj
    have ht := ty_df cn (cl_lt hc) j (by omega)
    show _ = List.getD (List.map _ _) j Value.null
    rw [List.getD_eq_getElem?_getD, range_at hj', ef_0 (B := B) (b := b) ht.1 ht.2, al_M hH, al_R hH]
    rfl
  have hR := hr_new (sl := N) hH hT (by have := cl_lt hc; show cn ≤ 1000; omega) z1 o1 hfs
  have := kk H1 locs ls (cells + 1) (slots + N) hR (va_Sn hS (by omega) o1) hl (by show _ = mC h + 1; omega) (by show _ = mSl h + N; omega)
  rw [hr_ad hH hT]
  exact this

theorem so_newa_i (X : Cx B b L xs D aC p l R s m args meth c md d) (hw : Cond.arrayClass .int ∈ w_all) (hd : decode (dB md) pc = .ok (.newarray .int, 2)) : SO P B b L xs D aC p l e R s m args below meth c md d c0 s0 Q pc (mo_newa 1 (pc + 2)) := by
  obtain ⟨hx, hb, hml, hown, hts, hlk, hst, hK, hG, hRm, htb, hnm⟩ := X
  intro lsl stl h r hf
  unfold mo_newa at hf
  split at hf
  · rename_i n r0
    obtain ⟨hq, hf⟩ := bq hf
    obtain rfl := Option.some.inj hf
    obtain ⟨hT, hq⟩ := b2 hq
    obtain ⟨q1, q2⟩ := b2 hq
    have q1 := of_decide_eq_true q1
    have q2 := of_decide_eq_true q2
    have hi : inI n = true := by simp only [inI, Bool.and_eq_true, decide_eq_true_eq]; omega
    refine so_nx ⟨Nat.le_succ _, Nat.le_add_right _ _⟩ fun g1 g2 kk H locs ls cells slots hH hS hl hc0 hs0 => ?_
    have g1 : mC h + 1 ≤ c0 + R.cells := g1
    have g2 : mSl h + n.toNat ≤ s0 + R.slots := g2
    have hn : (Int32.ofInt n).toNatClampNeg = n.toNat := by
      show (Int32.ofInt n).toInt.toNat = _
      rw [i32 hi]
    have hn0 : ¬ Int32.ofInt n < 0 := by rw [Int32.lt_iff_toInt_lt, i32 hi, Int32.toInt_zero]; omega
    refine va_newaK (atype := .int) hx hb (hts _ hw) rfl hd rfl hn0 hn (by show n.toNat * _ ≤ _; simp only [newarray.typeOf, componentBytes]; omega) (by omega) (by omega) rfl fun H1 cA e1 z1 o1 hAr hNm => ?_
    have hcA : cA = aC 1 := Option.some.inj (hNm.symm.trans (hK.2 0 _ rfl).2)
    subst hcA
    have hat : va_at D vwCl (H.size, oe B b aC (alloc h (1, n.toNat) n.toNat) (mN h)) H1 := by
      rw [oe_1 (by rw [al_K hH])]
      show H1[H.size]? = some (vp_cell _ _)
      rw [e1, vp_cell_i]
      have e9 : (mK (alloc h (1, n.toNat) n.toNat) (mN h)).2 = n.toNat := by rw [al_K hH]
      rw [e9]
      congr 2
      funext j
      rw [al_M hH]
      rfl
    have hR := hr_new (sl := n.toNat) hH hT (by show n.toNat ≤ 1000; omega) z1 o1 hat
    have := kk H1 locs ls (cells + 1) (slots + n.toNat) hR (va_Sn hS (by omega) o1) hl (by show _ = mC h + 1; omega) (by show _ = mSl h + n.toNat; omega)
    rw [hr_ad hH hT]
    exact this
  · cases hf

theorem so_newa_j (X : Cx B b L xs D aC p l R s m args meth c md d) (hw : Cond.arrayClass .long ∈ w_all) (hd : decode (dB md) pc = .ok (.newarray .long, 2)) : SO P B b L xs D aC p l e R s m args below meth c md d c0 s0 Q pc (mo_newa 2 (pc + 2)) := by
  obtain ⟨hx, hb, hml, hown, hts, hlk, hst, hK, hG, hRm, htb, hnm⟩ := X
  intro lsl stl h r hf
  unfold mo_newa at hf
  split at hf
  · rename_i n r0
    obtain ⟨hq, hf⟩ := bq hf
    obtain rfl := Option.some.inj hf
    obtain ⟨hT, hq⟩ := b2 hq
    obtain ⟨q1, q2⟩ := b2 hq
    have q1 := of_decide_eq_true q1
    have q2 := of_decide_eq_true q2
    have hi : inI n = true := by simp only [inI, Bool.and_eq_true, decide_eq_true_eq]; omega
    refine so_nx ⟨Nat.le_succ _, Nat.le_add_right _ _⟩ fun g1 g2 kk H locs ls cells slots hH hS hl hc0 hs0 => ?_
    have g1 : mC h + 1 ≤ c0 + R.cells := g1
    have g2 : mSl h + n.toNat ≤ s0 + R.slots := g2
    have hn : (Int32.ofInt n).toNatClampNeg = n.toNat := by
      show (Int32.ofInt n).toInt.toNat = _
      rw [i32 hi]
    have hn0 : ¬ Int32.ofInt n < 0 := by rw [Int32.lt_iff_toInt_lt, i32 hi, Int32.toInt_zero]; omega
    refine va_newaK (atype := .long) hx hb (hts _ hw) rfl hd rfl hn0 hn (by show n.toNat * _ ≤ _; simp only [newarray.typeOf, componentBytes]; omega) (by omega) (by omega) rfl fun H1 cA e1 z1 o1 hAr hNm => ?_
    have hcA : cA = aC 2 := Option.some.inj (hNm.symm.trans (hK.2 1 _ rfl).2)
    subst hcA
    have hat : va_at D vwCl (H.size, oe B b aC (alloc h (2, n.toNat) n.toNat) (mN h)) H1 := by
      rw [oe_2 (by rw [al_K hH])]
      show H1[H.size]? = some (vp_cell _ _)
      rw [e1, vp_cell_l]
      have e9 : (mK (alloc h (2, n.toNat) n.toNat) (mN h)).2 = n.toNat := by rw [al_K hH]
      rw [e9]
      congr 2
      funext j
      rw [al_M hH]
      rfl
    have hR := hr_new (sl := n.toNat) hH hT (by show n.toNat ≤ 1000; omega) z1 o1 hat
    have := kk H1 locs ls (cells + 1) (slots + n.toNat) hR (va_Sn hS (by omega) o1) hl (by show _ = mC h + 1; omega) (by show _ = mSl h + n.toNat; omega)
    rw [hr_ad hH hT]
    exact this
  · cases hf

theorem so_anew {t index : Nat} {C : String} (X : Cx B b L xs D aC p l R s m args meth c md d) (ht : t = 6 ∨ t = 7) (htc : tyA t = .object C) (hov : FieldType.object C ∈ w_over) (hw : Cond.classLink (dY md).cls index C ∈ w_all) (hd : decode (dB md) pc = .ok (.anewarray index, 3)) : SO P B b L xs D aC p l e R s m args below meth c md d c0 s0 Q pc (mo_newa t (pc + 3)) := by
  obtain ⟨hx, hb, hml, hown, hts, hlk, hst, hK, hG, hRm, htb, hnm⟩ := X
  intro lsl stl h r hf
  unfold mo_newa at hf
  split at hf
  · rename_i n r0
    obtain ⟨hq, hf⟩ := bq hf
    obtain rfl := Option.some.inj hf
    obtain ⟨hT, hq⟩ := b2 hq
    obtain ⟨q1, q2⟩ := b2 hq
    have q1 := of_decide_eq_true q1
    have q2 := of_decide_eq_true q2
    have hi : inI n = true := by simp only [inI, Bool.and_eq_true, decide_eq_true_eq]; omega
    refine so_nx ⟨Nat.le_succ _, Nat.le_add_right _ _⟩ fun g1 g2 kk H locs ls cells slots hH hS hl hc0 hs0 => ?_
    have g1 : mC h + 1 ≤ c0 + R.cells := g1
    have g2 : mSl h + n.toNat ≤ s0 + R.slots := g2
    have hn : (Int32.ofInt n).toNatClampNeg = n.toNat := by
      show (Int32.ofInt n).toInt.toNat = _
      rw [i32 hi]
    have hn0 : ¬ Int32.ofInt n < 0 := by rw [Int32.lt_iff_toInt_lt, i32 hi, Int32.toInt_zero]; omega
    refine W.anew hx hb hown (hts _ hw) (w_ovm (Vm.Alike.refl s.vm) (hG.2.2.2.2.2.2.1 _ hov)) rfl hd rfl hn0 (by rw [hn]; omega) (by omega) (by rw [hn]; omega) fun cA kA comp f1 f2 f3 f4 => ?_
    have hRA := (hK.2 (t - 1) _ (ty_at hK t (by omega) (by omega))).2
    rw [htc] at hRA
    have hcA : cA = aC t := Option.some.inj (f1.symm.trans hRA.choose_spec.choose_spec.2.2.2)
    subst hcA
    rw [hn]
    generalize hH1 : H.push ({ cls := aC t, slots := Array.replicate n.toNat .null, vm := .none } : Cell) = H1
    have z1 : H1.size = H.size + 1 := by rw [← hH1, Array.size_push]
    have e1 : H1[H.size]? = some (arrV (aC t) n.toNat (fun _ => .null)) := by rw [← hH1, Array.getElem?_push_size, ← arrV_new]
    have o1 : ∀ q : Nat, q < H.size → H1[q]? = H[q]? := fun q hq => by rw [← hH1, Array.getElem?_push_lt hq, Array.getElem?_eq_getElem hq]
    have hat : va_at D vwCl (H.size, oe B b aC (alloc h (t, n.toNat) n.toNat) (mN h)) H1 := by
      rw [oe_4 (t := t) (by rw [al_K hH]) (by omega)]
      show H1[H.size]? = some (vp_cell _ _)
      rw [e1, vp_cell_q]
      have e9 : (mK (alloc h (t, n.toNat) n.toNat) (mN h)).2 = n.toNat := by rw [al_K hH]
      rw [e9]
      congr 2
      funext j
      rw [al_R hH]
      rfl
    have hR := hr_new (sl := n.toNat) hH hT (by show n.toNat ≤ 1000; omega) z1 o1 hat
    have := kk H1 locs ls (cells + 1) (slots + n.toNat) hR (va_Sn hS (by omega) o1) hl (by show _ = mC h + 1; omega) (by show _ = mSl h + n.toNat; omega)
    rw [hr_ad hH hT]
    exact this
  · cases hf
theorem rw_Kj {h : mMH} {H : Heap} (hH : HR B b D aC h H) {t t1 N K j : Nat} : mK (rowsOf h t t1 N K) j = if j < mN h then mK h j else if j = mN h then (t, N) else if j < mN h + 1 + N then (t1, K) else (9, 0) := gd_N hH.2.2.2.1
theorem rw_Rj {h : mMH} {H : Heap} (hH : HR B b D aC h H) {t t1 N K j : Nat} : mR (rowsOf h t t1 N K) j = if j < mN h then mR h j else if j = mN h then rowsR (mN h) N else if j < mN h + 1 + N then r_no else r_no := gd_N hH.2.2.2.2.1
theorem hr_rows {h : mMH} {H H1 : Heap} {t t1 N K : Nat} (hH : HR B b D aC h H) (hT : mT h = true) (hN : N ≤ 1000) (hK1 : K ≤ 1000) (hz : H1.size = H.size + 1 + N) (ho : ∀ q : Nat, q < H.size → H1[q]? = H[q]?) (h0 : va_at D vwCl (H.size, oe B b aC (rowsOf h t t1 N K) (mN h)) H1) (h1 : ∀ j, j < N → va_at D vwCl (H.size + 1 + j, oe B b aC (rowsOf h t t1 N K) (mN h + 1 + j)) H1) : HR B b D aC (rowsOf h t t1 N K) H1 := by
  have hH0 := hH
  obtain ⟨⟨z1, z2, z3⟩, k1, c1, y1, y2, y3⟩ := hH
  have e0 := z1 hT
  refine ⟨⟨fun _ => by show H1.size = B + (mN h + 1 + N); omega, by show B + (mN h + 1 + N) ≤ H1.size; omega, by show 1 ≤ mN h + 1 + N; omega⟩, fun j hj => ?_, fun j hj => ?_, by show (_ ++ _ :: List.replicate N _).length = mN h + 1 + N; simp; omega, by show (_ ++ _ :: List.replicate N _).length = mN h + 1 + N; simp; omega, fun a ha => y3 a (by have : mN h + 1 + N ≤ a := ha; omega)⟩
  · rw [rw_Kj hH0] at hj ⊢
    by_cases q1 : j < mN h
    · rw [if_pos q1] at hj ⊢
      have := k1 j hj
      exact ⟨⟨this.1.1, by show j < mN h + 1 + N; omega⟩, this.2⟩
    · rw [if_neg q1] at hj ⊢
      by_cases q2 : j = mN h
      · rw [if_pos q2]; exact ⟨⟨by omega, by show j < mN h + 1 + N; omega⟩, hN⟩
      · rw [if_neg q2] at hj ⊢
        by_cases q3 : j < mN h + 1 + N
        · rw [if_pos q3]; exact ⟨⟨by omega, q3⟩, hK1⟩
        · rw [if_neg q3] at hj; exact absurd rfl hj
  · by_cases q1 : j < mN h
    · rw [rw_Kj hH0, if_pos q1] at hj
      have e2 : oe B b aC (rowsOf h t t1 N K) j = oe B b aC h j := by
        unfold oe; rw [rw_Kj hH0, if_pos q1, rw_Rj hH0, if_pos q1]; rfl
      rw [e2]
      have := k1 j hj
      exact (c1 j hj).kept (ho _ (by show B + j < H.size; omega))
    · by_cases q3 : j < mN h + 1 + N
      · by_cases q2 : j = mN h
        · subst q2; rw [← e0]; exact h0
        · have := h1 (j - (mN h + 1)) (by omega)
          rw [show H.size + 1 + (j - (mN h + 1)) = B + j by omega, show mN h + 1 + (j - (mN h + 1)) = j by omega] at this
          exact this
      · rw [rw_Kj hH0, if_neg q1, if_neg (by omega), if_neg q3] at hj
        exact absurd rfl hj
theorem rw_K0 {h : mMH} {H : Heap} (hH : HR B b D aC h H) {t t1 N K : Nat} : mK (rowsOf h t t1 N K) (mN h) = (t, N) := by
  rw [rw_Kj hH, if_neg (Nat.lt_irrefl _), if_pos rfl]
theorem rw_R0 {h : mMH} {H : Heap} (hH : HR B b D aC h H) {t t1 N K : Nat} (j : Nat) : mR (rowsOf h t t1 N K) (mN h) j = if j < N then some (mN h + 1 + j) else none := by
  rw [rw_Rj hH, if_neg (Nat.lt_irrefl _), if_pos rfl]
  unfold rowsR
  by_cases q : j < N
  · rw [blt_t q, if_pos q]; rfl
  · rw [blt_f (by omega), if_neg q]; rfl
theorem rw_K1 {h : mMH} {H : Heap} (hH : HR B b D aC h H) {t t1 N K j : Nat} (hj : j < N) : mK (rowsOf h t t1 N K) (mN h + 1 + j) = (t1, K) := by
  rw [rw_Kj hH, if_neg (by omega), if_neg (by omega), if_pos (by omega)]
theorem rw_M1 {h : mMH} {H : Heap} (hH : HR B b D aC h H) {t t1 N K j : Nat} (i : Nat) : (rowsOf h t t1 N K).2 (mN h + 1 + j) i = 0 := by
  show h.2 (mN h + 1 + j) i = 0
  rw [hH.2.2.2.2.2 _ (by omega)]
theorem so_mna {t t1 index : Nat} {ty : FieldType} {z : Nat → vp_A} (X : Cx B b L xs D aC p l R s m args meth c md d) (ht : t = 4 ∨ t = 5) (ht1 : t1 = 1 ∨ t1 = 2) (htc : tyA t = .array ty) (ht1c : tyA t1 = ty) (hov : FieldType.array ty ∈ w_over) (hnf : (FieldType.array ty).toString = "[" ++ ty.toString) (hw1 : Cond.classLink (dY md).cls index ("[" ++ (FieldType.array ty).toString) ∈ w_all) (hw2 : Cond.arrayClass ty ∈ w_all)
    (hdf : fits ty (defaultValue ty) = true) (hdd : (defaultValue ty).isDefault = true) (hcb : componentBytes ty ≤ 8) (hz : ∀ (c : ClassId) (K : Nat), Jvm.Free.Multi.innerC c K (defaultValue ty) = vp_cell c (z K)) (hz2 : ∀ (h : mMH) (H : Heap) (N K j : Nat), HR B b D aC h H → j < N → oe B b aC (rowsOf h t t1 N K) (mN h + 1 + j) = .inl (aC t1, z K)) (hd : decode (dB md) pc = .ok (.multianewarray index 2, 4)) : SO P B b L xs D aC p l e R s m args below meth c md d c0 s0 Q pc (mo_mna t t1 (pc + 4)) := by
  obtain ⟨hx, hb, hml, hown, hts, hlk, hst, hK, hG, hRm, htb, hnm⟩ := X
  intro lsl stl h r hf
  unfold mo_mna at hf
  split at hf
  · rename_i k n r0
    obtain ⟨hq, hf⟩ := bq hf
    obtain rfl := Option.some.inj hf
    obtain ⟨hT, hq⟩ := b2 hq
    obtain ⟨hq1, hq2⟩ := b2 hq
    obtain ⟨q1, q2⟩ := b2 hq1
    obtain ⟨q3, q4⟩ := b2 hq2
    have q1 := of_decide_eq_true q1
    have q2 := of_decide_eq_true q2
    have q3 := of_decide_eq_true q3
    have q4 := of_decide_eq_true q4
    have hi : inI n = true := by simp only [inI, Bool.and_eq_true, decide_eq_true_eq]; omega
    have hik : inI k = true := by simp only [inI, Bool.and_eq_true, decide_eq_true_eq]; omega
    refine so_nx ⟨by show mC h ≤ mC h + 1 + n.toNat; omega, by show mSl h ≤ mSl h + n.toNat + n.toNat * k.toNat; omega⟩ fun g1 g2 kk H locs ls cells slots hH hS hl hc0 hs0 => ?_
    have g1 : mC h + 1 + n.toNat ≤ c0 + R.cells := g1
    have g2 : mSl h + n.toNat + n.toNat * k.toNat ≤ s0 + R.slots := g2
    have hn : (Int32.ofInt n).toNatClampNeg = n.toNat := by
      show (Int32.ofInt n).toInt.toNat = _
      rw [i32 hi]
    have hkn : (Int32.ofInt k).toNatClampNeg = k.toNat := by
      show (Int32.ofInt k).toInt.toNat = _
      rw [i32 hik]
    have hn0 : ¬ Int32.ofInt n < 0 := by rw [Int32.lt_iff_toInt_lt, i32 hi, Int32.toInt_zero]; omega
    have hk0 : ¬ Int32.ofInt k < 0 := by rw [Int32.lt_iff_toInt_lt, i32 hik, Int32.toInt_zero]; omega
    have hcy : s.vm.findClass (FieldType.array ty).toString = some (aC t1) := by
      have h9 := (hK.2 (t1 - 1) _ (ty_at hK t1 (by omega) (by omega))).2
      rw [hnf, ← ht1c]
      rcases ht1 with rfl | rfl <;> exact h9
    have hcx : s.vm.findClass ("[" ++ (FieldType.array ty).toString) = some (aC t) := by
      have h9 := (hK.2 (t - 1) _ (ty_at hK t (by omega) (by omega))).2
      rw [htc] at h9
      exact h9
    intro T hTT Xs
    have hb2 : k.toNat * componentBytes ty ≤ 536870912 := Nat.le_trans (Nat.mul_le_mul (show k.toNat ≤ 1000 by omega) hcb) (by omega)
    obtain ⟨vm₁, cA, comp, -, fA, fC, hO, -, X', step⟩ := Xs.multianewarray2F hx hown (hts _ hw1) (w_ovm (Vm.Alike.refl s.vm) (hG.2.2.2.2.2.2.1 _ hov)) (hts _ hw2) (g := F0 m pc ls (List.map (eV B b) (vI k :: vI n :: r0))) rfl (by rw [hb]; exact hd) rfl hn0 hk0 (by rw [hn]; omega) (by rw [hkn]; exact hb2) (by rw [hkn]; omega) hdf hdd (by rw [hn]; omega) (by rw [hn, hkn]; omega)
    obtain rfl : aC t = cA := Option.some.inj (hcx.symm.trans fA)
    obtain rfl : aC t1 = comp := Option.some.inj (hcy.symm.trans fC)
    rw [hn, hkn] at X' step
    generalize hF : Jvm.Free.Multi.fill (T.setVm vm₁) (aC t) (aC t1) n.toNat k.toNat (defaultValue ty) n.toNat = F at X' step
    have hTh : (T.setVm vm₁).heap = H := hTT
    obtain ⟨f1, f2, -, -⟩ := Jvm.Free.Multi.fill_facts (T.setVm vm₁) (aC t) (aC t1) n.toNat k.toNat (defaultValue ty) n.toNat
    rw [hF, hTh] at f1 f2
    have hold : ∀ x : Nat, x < H.size → F.heap[x]? = H[x]? := fun x hx => by
      have := Jvm.Free.Multi.fill_old (T.setVm vm₁) (aC t) (aC t1) n.toNat k.toNat (defaultValue ty) (a := x) (by rw [hTh]; exact hx) n.toNat
      rw [hF, hTh] at this
      exact this
    have hrow : ∀ j : Nat, j < n.toNat → F.heap[H.size + 1 + j]? = some (vp_cell (aC t1) (z k.toNat)) := fun j hj => by
      have := Jvm.Free.Multi.fill_inner (T.setVm vm₁) (aC t) (aC t1) n.toNat k.toNat (defaultValue ty) n.toNat j hj
      rw [hF, hTh, hz] at this
      exact this
    rw [vr_outer] at f2
    have e0 := hH.1.1 hT
    have hsz : F.heap.size = H.size + 1 + n.toNat := f1
    have h0 : va_at D vwCl (H.size, oe B b aC (rowsOf h t t1 n.toNat k.toNat) (mN h)) F.heap := by
      rw [oe_4 (t := t) (by rw [rw_K0 hH]) (by omega)]
      show F.heap[H.size]? = some (vp_cell _ _)
      rw [f2, vp_cell_q, rw_K0 hH]
      congr 2
      funext j
      rw [rw_R0 hH]
      by_cases q : j < n.toNat
      · rw [if_pos q, if_pos q]
        show va_rf (some (H.size + 1 + j)) = va_rf (some (adr B b (mN h + 1 + j)))
        rw [adr_pos (by omega)]
        congr 2
        omega
      · rw [if_neg q, if_neg q]; rfl
    have hR := hr_rows (t := t) (t1 := t1) (N := n.toNat) (K := k.toNat) hH hT (by omega) (by omega) hsz hold h0 (fun j hj => by rw [hz2 h H n.toNat k.toNat j hH hj]; exact hrow j hj)
    have kq := kk F.heap locs ls (cells + 1 + n.toNat) (slots + n.toNat + n.toNat * k.toNat) hR (va_Sn hS (by omega) hold) hl (by show _ = mC h + 1 + n.toNat; omega) (by show _ = mSl h + n.toNat + n.toNat * k.toNat; omega)
    have ea : Value.ref T.heap.size = eV B b (vR (some (mN h))) := by rw [hTT]; exact hr_ad hH hT
    obtain ⟨t9, a1, b1⟩ := kq F rfl X'
    refine ⟨t9, step t9 ?_, b1⟩
    rw [ea]
    exact a1
  · cases hf
theorem so_objinit {index : Nat} (X : Cx B b L xs D aC p l R s m args meth c md d) (hw1 : Cond.methodLink (dY md).cls index Lib.objectInit ∈ w_all) (hw2 : Cond.instanceMethod Lib.objectInit ∈ w_all) (hw3 : Cond.code Lib.objectInit ⟨#[0xb1]⟩ 1 none ∈ w_all) (hd : decode (dB md) pc = .ok (.invokespecial index, 3)) : SO P B b L xs D aC p l e R s m args below meth c md d c0 s0 Q pc (mo_objinit (pc + 3)) := by
  obtain ⟨hx, hb, hml, hown, hts, hlk, hst, hK, hG, hRm, htb, hnm⟩ := X
  intro lsl stl h r hf
  unfold mo_objinit at hf
  split at hf
  · rename_i a r0
    obtain ⟨hq, hf⟩ := bq hf
    obtain rfl := Option.some.inj hf
    have hq : (r0.map mcat).sum ≤ 8 := Nat.ble_eq.mp hq
    refine so_pu fun H locs ls cells slots hH hS hl kk => ?_
    have hcat : ((r0.map (eV B b)).map fun v => v.category).sum = (r0.map mcat).sum := by
      rw [List.map_map]
      congr 1
      exact List.map_congr_left fun v _ => cat_eV B b v
    refine W.objInit hx hb hown (hts _ hw1) (hts _ hw2) (hts _ hw3) rfl (by rw [hml]; exact hl.choose_spec.1.1) rfl hd (by omega) ?_ kk
    show 2 * 0 + ((r0.map (eV B b)).map fun v => v.category).sum + 12 ≤ R.locals
    rw [hcat]
    omega
  · cases hf
end SOM
