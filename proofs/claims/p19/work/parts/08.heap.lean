/-! ===== the ops of the heap ===== -/
section SOH
variable {P : Nat → mMD} {B b L : Nat} {xs : Nat → Int32} {D : va_G} {aC : Nat → ClassId} {p : Program} {l : Launch} {e : Env} {R : Room} {s : State} {m : MethodId} {args : Array Value} {below : List Frame} {meth : Method} {c : Code} {md : mMD} {d c0 s0 : Nat} {Q : State → Prop} {pc : Nat}

theorem upR_ne {m : List (Nat → Option Nat)} {a k k9 : Nat} {v : Option Nat} (h : k9 ≠ a) : (upR m a k v).getD k9 r_no = m.getD k9 r_no := by
  unfold upR
  rw [List.getD_eq_getElem?_getD, List.getElem?_set_ne (fun z => h z.symm), ← List.getD_eq_getElem?_getD]
theorem upR_eq {m : List (Nat → Option Nat)} {a k : Nat} {v : Option Nat} (h : a < m.length) : (upR m a k v).getD a r_no = ru (m.getD a r_no) k v := by
  unfold upR
  rw [List.getD_eq_getElem?_getD, List.getElem?_set_self h]
  rfl
theorem range_set {α : Type} {F F' : Nat → α} {N k : Nat} {v : α} (h1 : F' k = v) (h2 : ∀ j, j ≠ k → F' j = F j) : (List.range N).map F' = ((List.range N).map F).set k v := by
  apply List.ext_getElem?
  intro j
  by_cases q : k = j
  · subst q
    rw [List.getElem?_set_self', List.getElem?_map, List.getElem?_map]
    by_cases z : k < N
    · rw [List.getElem?_range z]; simp [h1]
    · rw [List.getElem?_eq_none (by simp; omega)]; rfl
  · rw [List.getElem?_set_ne q, List.getElem?_map, List.getElem?_map]
    by_cases z : j < N
    · rw [List.getElem?_range z]; simp [h2 j (fun w => q w.symm)]
    · rw [List.getElem?_eq_none (by simp; omega)]; rfl
theorem range_at {α : Type} {F : Nat → α} {N k : Nat} (h : k < N) : ((List.range N).map F)[k]? = some (F k) := by
  rw [List.getElem?_map, List.getElem?_range h]; rfl
theorem hr_0 {h : mMH} {H : Heap} (hH : HR B b D aC h H) {a cn : Nat} (hk : mK h a = (0, cn)) : adr B b a = B + a ∧ va_at D vwCl (adr B b a, .inr (cn, (List.range (nF cn)).map (fun j => eF B b (tyC cn j) (h.2 a j) (mR h a j)))) H := by
  obtain ⟨h1, -, h2⟩ := hr_live hH hk (by omega)
  have e1 : adr B b a = B + a := adr_pos h1.1
  rw [oe_0 hk] at h2
  rw [e1]
  exact ⟨rfl, h2⟩
theorem hr_a {h : mMH} {H : Heap} (hH : HR B b D aC h H) {a t : Nat} {i : Int} (hk : ka h a t i = true) (ht : t ≠ 9) : adr B b a = B + a ∧ va_at D vwCl (adr B b a, oe B b aC h a) H ∧ (mK h a).1 = t ∧ (mK h a).2 ≤ 1000 ∧ 0 ≤ i ∧ i.toNat < (mK h a).2 := by
  obtain ⟨k1, k2, k3⟩ := ka_k hk
  obtain ⟨h1, h3, h2⟩ := hr_live hH (a := a) (t := (mK h a).1) (x := (mK h a).2) rfl (by rw [k1]; exact ht)
  have e1 : adr B b a = B + a := adr_pos h1.1
  rw [e1]
  exact ⟨rfl, h2, k1, h3, k2, by omega⟩
theorem va_1 {D : va_G} {cl : List vw_C} {q : Nat × va_E} {H : Heap} (h : va_at D cl q H) : va_P D cl [q] H := fun k x hx => by
  match k, hx with
  | 0, hx => cases hx; exact h
  | k + 1, hx => simp at hx
theorem ix_cl {i : Int} {n : Nat} (h0 : 0 ≤ i) (h1 : i.toNat < n) (hn : n ≤ 1000) : (Int32.ofInt i).toNatClampNeg = i.toNat ∧ vp_in (Int32.ofInt i) n := by
  have hi : inI i = true := by simp only [inI, Bool.and_eq_true, decide_eq_true_eq]; omega
  have e : (Int32.ofInt i).toNatClampNeg = i.toNat := by
    show (Int32.ofInt i).toInt.toNat = _
    rw [i32 hi]
  refine ⟨e, fun q => ?_⟩
  rcases q with q | q
  · rw [Int32.lt_iff_toInt_lt, i32 hi, Int32.toInt_zero] at q; omega
  · rw [e] at q; omega
theorem ty_at (hK : va_K D vwCl (tysL aC) s) (t : Nat) (h1 : 1 ≤ t) (h7 : t ≤ 7) : (tysL aC)[t - 1]? = some (aC t, tyA t) := by
  match t, h1, h7 with
  | 1, _, _ => rfl
  | 2, _, _ => rfl
  | 3, _, _ => rfl
  | 4, _, _ => rfl
  | 5, _, _ => rfl
  | 6, _, _ => rfl
  | 7, _, _ => rfl

theorem so_getI {C : String} {T : u_T} {N cn k index : Nat} (X : Cx B b L xs D aC p l R s m args meth c md d) (hc : vwCl[cn]? = some (C, T, N)) (hk : k < N) (hw : Cond.fieldLink (dY md).cls index (T k).1 (T k).2.1 (T k).2.2.1 ∈ w_all) (hty : ∀ (x : Int) (r : Option Nat), eF B b (tyC cn k) x r = .int (Int32.ofInt x)) (hd : decode (dB md) pc = .ok (.getfield index, 3)) : SO P B b L xs D aC p l e R s m args below meth c md d c0 s0 Q pc (mo_getI cn k (pc + 3)) := by
  obtain ⟨hx, hb, hml, hown, hts, hlk, hst, hK, hG, hRm, htb, hnm⟩ := X
  intro lsl stl h r hf
  unfold mo_getI at hf
  split at hf
  · rename_i a r0
    obtain ⟨hq, hf⟩ := bq hf
    obtain rfl := Option.some.inj hf
    obtain ⟨k1, k2, k3, k4⟩ := cls_ok cn _ hc
    refine so_pu fun H locs ls cells slots hH hS hl kk => ?_
    obtain ⟨e1, h1⟩ := hr_0 hH (kq_k hq)
    exact va_get hx hb hts k1 hown hK (va_1 h1) 0 rfl hc k hk (hts _ hw) (fun _ h9 => h9) ((range_at (by rw [k4]; exact hk)).trans (congrArg some (hty _ _))) hd kk
  · cases hf

theorem so_getIN {C : String} {T : u_T} {N cn k index : Nat} {host : String} (X : Cx B b L xs D aC p l R s m args meth c md d) (hc : vwCl[cn]? = some (C, T, N)) (hk : k < N) (hw : Cond.fieldLinkNest (dY md).cls index (T k).1 (T k).2.1 (T k).2.2.1 host ∈ w_bad) (hty : ∀ (x : Int) (r : Option Nat), eF B b (tyC cn k) x r = .int (Int32.ofInt x)) (hd : decode (dB md) pc = .ok (.getfield index, 3)) : SO P B b L xs D aC p l e R s m args below meth c md d c0 s0 Q pc (mo_getI cn k (pc + 3)) := by
  obtain ⟨hx, hb, hml, hown, hts, hlk, hst, hK, hG, hRm, htb, hnm⟩ := X
  intro lsl stl h r hf
  unfold mo_getI at hf
  split at hf
  · rename_i a r0
    obtain ⟨hq, hf⟩ := bq hf
    obtain rfl := Option.some.inj hf
    obtain ⟨k1, k2, k3, k4⟩ := cls_ok cn _ hc
    refine so_pu fun H locs ls cells slots hH hS hl kk => ?_
    obtain ⟨e1, h1⟩ := hr_0 hH (kq_k hq)
    exact va_getN hx hb hts k1 hown hK (va_1 h1) 0 rfl hc k hk (va_Nw.use rfl (hG.2.2.2.2.2.1 _ hw)) (fun _ h9 => h9) ((range_at (by rw [k4]; exact hk)).trans (congrArg some (hty _ _))) hd kk
  · cases hf

theorem so_getJ {C : String} {T : u_T} {N cn k index : Nat} (X : Cx B b L xs D aC p l R s m args meth c md d) (hc : vwCl[cn]? = some (C, T, N)) (hk : k < N) (hw : Cond.fieldLink (dY md).cls index (T k).1 (T k).2.1 (T k).2.2.1 ∈ w_all) (hty : ∀ (x : Int) (r : Option Nat), eF B b (tyC cn k) x r = .long (Int64.ofInt x)) (hd : decode (dB md) pc = .ok (.getfield index, 3)) : SO P B b L xs D aC p l e R s m args below meth c md d c0 s0 Q pc (mo_getJ cn k (pc + 3)) := by
  obtain ⟨hx, hb, hml, hown, hts, hlk, hst, hK, hG, hRm, htb, hnm⟩ := X
  intro lsl stl h r hf
  unfold mo_getJ at hf
  split at hf
  · rename_i a r0
    obtain ⟨hq, hf⟩ := bq hf
    obtain rfl := Option.some.inj hf
    obtain ⟨k1, k2, k3, k4⟩ := cls_ok cn _ hc
    refine so_pu fun H locs ls cells slots hH hS hl kk => ?_
    obtain ⟨e1, h1⟩ := hr_0 hH (kq_k hq)
    exact va_get hx hb hts k1 hown hK (va_1 h1) 0 rfl hc k hk (hts _ hw) (fun _ h9 => h9) ((range_at (by rw [k4]; exact hk)).trans (congrArg some (hty _ _))) hd kk
  · cases hf

theorem so_getJN {C : String} {T : u_T} {N cn k index : Nat} {host : String} (X : Cx B b L xs D aC p l R s m args meth c md d) (hc : vwCl[cn]? = some (C, T, N)) (hk : k < N) (hw : Cond.fieldLinkNest (dY md).cls index (T k).1 (T k).2.1 (T k).2.2.1 host ∈ w_bad) (hty : ∀ (x : Int) (r : Option Nat), eF B b (tyC cn k) x r = .long (Int64.ofInt x)) (hd : decode (dB md) pc = .ok (.getfield index, 3)) : SO P B b L xs D aC p l e R s m args below meth c md d c0 s0 Q pc (mo_getJ cn k (pc + 3)) := by
  obtain ⟨hx, hb, hml, hown, hts, hlk, hst, hK, hG, hRm, htb, hnm⟩ := X
  intro lsl stl h r hf
  unfold mo_getJ at hf
  split at hf
  · rename_i a r0
    obtain ⟨hq, hf⟩ := bq hf
    obtain rfl := Option.some.inj hf
    obtain ⟨k1, k2, k3, k4⟩ := cls_ok cn _ hc
    refine so_pu fun H locs ls cells slots hH hS hl kk => ?_
    obtain ⟨e1, h1⟩ := hr_0 hH (kq_k hq)
    exact va_getN hx hb hts k1 hown hK (va_1 h1) 0 rfl hc k hk (va_Nw.use rfl (hG.2.2.2.2.2.1 _ hw)) (fun _ h9 => h9) ((range_at (by rw [k4]; exact hk)).trans (congrArg some (hty _ _))) hd kk
  · cases hf

theorem so_getR {C : String} {T : u_T} {N cn k index : Nat} (X : Cx B b L xs D aC p l R s m args meth c md d) (hc : vwCl[cn]? = some (C, T, N)) (hk : k < N) (hw : Cond.fieldLink (dY md).cls index (T k).1 (T k).2.1 (T k).2.2.1 ∈ w_all) (hty : ∀ (x : Int) (r : Option Nat), eF B b (tyC cn k) x r = eR B b r) (hd : decode (dB md) pc = .ok (.getfield index, 3)) : SO P B b L xs D aC p l e R s m args below meth c md d c0 s0 Q pc (mo_getR cn k (pc + 3)) := by
  obtain ⟨hx, hb, hml, hown, hts, hlk, hst, hK, hG, hRm, htb, hnm⟩ := X
  intro lsl stl h r hf
  unfold mo_getR at hf
  split at hf
  · rename_i a r0
    obtain ⟨hq, hf⟩ := bq hf
    obtain rfl := Option.some.inj hf
    obtain ⟨k1, k2, k3, k4⟩ := cls_ok cn _ hc
    refine so_pu fun H locs ls cells slots hH hS hl kk => ?_
    obtain ⟨e1, h1⟩ := hr_0 hH (kq_k hq)
    exact va_get hx hb hts k1 hown hK (va_1 h1) 0 rfl hc k hk (hts _ hw) (fun _ h9 => h9) ((range_at (by rw [k4]; exact hk)).trans (congrArg some (hty _ _))) hd kk
  · cases hf

theorem so_getRN {C : String} {T : u_T} {N cn k index : Nat} {host : String} (X : Cx B b L xs D aC p l R s m args meth c md d) (hc : vwCl[cn]? = some (C, T, N)) (hk : k < N) (hw : Cond.fieldLinkNest (dY md).cls index (T k).1 (T k).2.1 (T k).2.2.1 host ∈ w_bad) (hty : ∀ (x : Int) (r : Option Nat), eF B b (tyC cn k) x r = eR B b r) (hd : decode (dB md) pc = .ok (.getfield index, 3)) : SO P B b L xs D aC p l e R s m args below meth c md d c0 s0 Q pc (mo_getR cn k (pc + 3)) := by
  obtain ⟨hx, hb, hml, hown, hts, hlk, hst, hK, hG, hRm, htb, hnm⟩ := X
  intro lsl stl h r hf
  unfold mo_getR at hf
  split at hf
  · rename_i a r0
    obtain ⟨hq, hf⟩ := bq hf
    obtain rfl := Option.some.inj hf
    obtain ⟨k1, k2, k3, k4⟩ := cls_ok cn _ hc
    refine so_pu fun H locs ls cells slots hH hS hl kk => ?_
    obtain ⟨e1, h1⟩ := hr_0 hH (kq_k hq)
    exact va_getN hx hb hts k1 hown hK (va_1 h1) 0 rfl hc k hk (va_Nw.use rfl (hG.2.2.2.2.2.1 _ hw)) (fun _ h9 => h9) ((range_at (by rw [k4]; exact hk)).trans (congrArg some (hty _ _))) hd kk
  · cases hf

theorem va_put2 {cc : ByteArray} {C : String} {T : u_T} {N cn k index : Nat} {H : Heap} {locs : List Loc} {cells slots : Nat} {ls : Array Slot} {rest : List Value} {a : Nat} {fs : List Value} {v : Value} {Ts : List Cond} {ref own : String} (hexec : p.tables.exec = Jvm.exec) (hb : c.code = cc) (hts : ∀ w ∈ Ts, w.before args s = true) (hin : ∀ w ∈ u_ws C T N, w ∈ Ts) (ty0 : Nat → FieldType) (hty : ∀ k, k < N → parseFieldDescriptor (T k).2.2.1 = some (ty0 k)) (hnm : ∀ a, a < N → ∀ b, b < N → a ≠ b → (T a).2.1 ≠ (T b).2.1) (hown : s.vm.findClass own = some m.cls) {tys : List (ClassId × FieldType)} {cl : List vw_C} (hK : va_K D cl tys s) (he : va_at D cl (a, .inr (cn, fs)) H) (hc : cl[cn]? = some (C, T, N)) (hk : k < N)
    (hlink : (Cond.fieldLink own index ref (T k).2.1 (T k).2.2.1).before args s = true ∨ ∃ host, (Cond.fieldLinkNest own index ref (T k).2.1 (T k).2.2.1 host).before args s = true) (hsame : ∀ x, s.fieldFound? (T k).1 (T k).2.1 (T k).2.2.1 = some x → s.fieldFound? ref (T k).2.1 (T k).2.2.1 = some x) (hfin : (T k).2.2.2 = false) (hn : narrow (ty0 k) v = v) (hfit : fits (ty0 k) v = true) (hl : k < fs.length)
    (hdg : decode cc pc = .ok (.putfield index, 3)) (kk : ∀ (H1 : Heap) (i : Nat), va_at D cl (a, .inr (cn, fs.set k v)) H1 → H1.size = H.size → (∀ q : Nat, q ≠ a → H1[q]? = H[q]?) → W p l e R s m args below meth c H1 (locs ++ [⟨a, i⟩]) cells slots Q (F0 m (pc + 3) ls rest)) : W p l e R s m args below meth c H locs cells slots Q (F0 m pc ls (v :: .ref a :: rest)) := by
  have hap := va_apart (own := own) hts hin ty0 hty hnm hK hc
  obtain ⟨r, h1, cell, q1, q2, q3, q4⟩ := he
  have hr : r = (C, T, N) := Option.some.inj (h1.symm.trans hc)
  subst hr
  obtain ⟨hS, hfc, kC, hkC, hkind⟩ := hK.1 cn _ hc
  obtain ⟨cf, kf, fi, f, hi, hsl⟩ := hS k hk
  have hlay := hts _ (hin _ (u_in_lay hk))
  unfold u_lay at hlay
  rw [if_neg (by rw [hfin]; decide)] at hlay
  have hst := (u_facts hfc hkC (u_lays hts hin hk) hi).1
  have h6 := u_store hfc hkC hkind hlay hi (hty k hk) hn hfit
  rcases hlink with hlink | ⟨host, hlink⟩
  · refine W.putK hexec hb (f := f) ⟨hown, hlink, ⟨_, _, _, hsame _ hi⟩, hst⟩ (by rw [q2]; exact h6) q1 q3 (by rw [hsl]; exact k2_hasslot (q4 k hk)) rfl rfl hdg fun H' e1 e2 e3 => ?_
    rw [hsl] at e1 ⊢
    exact kk H' _ ⟨_, hc, t_OB.to (V := updV (vp_V fs) k v) ⟨_, e1, q2, q3, t_set q4 hap hk v⟩ (fun j _ => vp_updV_set hl v j)⟩ e2 e3
  · refine va_WputK hexec hb (f := f) hown hlink (hsame _ hi) hst (by rw [q2]; exact h6) q1 q3 (by rw [hsl]; exact k2_hasslot (q4 k hk)) rfl rfl hdg fun H' e1 e2 e3 => ?_
    rw [hsl] at e1 ⊢
    exact kk H' _ ⟨_, hc, t_OB.to (V := updV (vp_V fs) k v) ⟨_, e1, q2, q3, t_set q4 hap hk v⟩ (fun j _ => vp_updV_set hl v j)⟩ e2 e3
theorem va_put3 {cc : ByteArray} {C : String} {T : u_T} {N cn k index : Nat} {H : Heap} {locs : List Loc} {cells slots : Nat} {ls : Array Slot} {rest : List Value} {a : Nat} {fs : List Value} {v : Value} {Ts : List Cond} {ref own : String} (hexec : p.tables.exec = Jvm.exec) (hb : c.code = cc) (hts : ∀ w ∈ Ts, w.before args s = true) (hin : ∀ w ∈ u_ws C T N, w ∈ Ts) (ty0 : Nat → FieldType) (hty : ∀ k, k < N → parseFieldDescriptor (T k).2.2.1 = some (ty0 k)) (hnm : ∀ a, a < N → ∀ b, b < N → a ≠ b → (T a).2.1 ≠ (T b).2.1) (hown : s.vm.findClass own = some m.cls) {tys : List (ClassId × FieldType)} {cl : List vw_C} (hK : va_K D cl tys s) (he : va_at D cl (a, .inr (cn, fs)) H) (hc : cl[cn]? = some (C, T, N)) (hk : k < N)
    (hlink : (Cond.fieldLink own index ref (T k).2.1 (T k).2.2.1).before args s = true) (hsame : ∀ x, s.fieldFound? (T k).1 (T k).2.1 (T k).2.2.1 = some x → s.fieldFound? ref (T k).2.1 (T k).2.2.1 = some x) (hfin : (T k).2.2.2 = true) (hin2 : meth.name = "<init>") (hdecl : (T k).1 = own) (hn : narrow (ty0 k) v = v) (hfit : fits (ty0 k) v = true) (hl : k < fs.length)
    (hdg : decode cc pc = .ok (.putfield index, 3)) (kk : ∀ (H1 : Heap) (i : Nat), va_at D cl (a, .inr (cn, fs.set k v)) H1 → H1.size = H.size → (∀ q : Nat, q ≠ a → H1[q]? = H[q]?) → W p l e R s m args below meth c H1 (locs ++ [⟨a, i⟩]) cells slots Q (F0 m (pc + 3) ls rest)) : W p l e R s m args below meth c H locs cells slots Q (F0 m pc ls (v :: .ref a :: rest)) := by
  have hap := va_apart (own := own) hts hin ty0 hty hnm hK hc
  obtain ⟨r, h1, cell, q1, q2, q3, q4⟩ := he
  have hr : r = (C, T, N) := Option.some.inj (h1.symm.trans hc)
  subst hr
  obtain ⟨hS, hfc, kC, hkC, hkind⟩ := hK.1 cn _ hc
  obtain ⟨cf, kf, fi, f, hi, hsl⟩ := hS k hk
  have hlay := hts _ (hin _ (u_in_lay hk))
  unfold u_lay at hlay
  rw [if_pos hfin] at hlay
  have hst := (u_facts hfc hkC (u_lays hts hin hk) hi).1
  have hcf : m.cls = cf := by
    obtain ⟨_, _, c', _, _, _, -, -, hf', -, -, -, hown2, -⟩ := Cond.laysFinal_spec hlay
    have e1 : c' = cf := by have := hi.symm.trans hf'; simp at this; exact this.1.symm
    rw [hdecl] at hown2
    rw [← e1]; exact Option.some.inj (hown.symm.trans hown2)
  have h6 := u_fits hfc hkC hkind (Or.inr hlay) hi (hty k hk) hn hfit
  refine W.putFinK hexec hb hown hlink (hsame _ hi) hst hcf hin2 (by rw [q2]; exact h6) q1 q3 (by rw [hsl]; exact k2_hasslot (q4 k hk)) rfl rfl hdg fun H' e1 e2 e3 => ?_
  rw [hsl] at e1 ⊢
  exact kk H' _ ⟨_, hc, t_OB.to (V := updV (vp_V fs) k v) ⟨_, e1, q2, q3, t_set q4 hap hk v⟩ (fun j _ => vp_updV_set hl v j)⟩ e2 e3
theorem va_Sp {A : Nat → Prop} {H0 H H1 : Heap} {locs : List Loc} {a k : Nat} (h : va_S A H0 H locs) (z : H1.size = H.size) (oq : ∀ q : Nat, q ≠ a → H1[q]? = H[q]?) (ha : A a) : va_S A H0 H1 (locs ++ [⟨a, k⟩]) := h.put z oq ha
/-- a step that writes the cell a -/
theorem so_wr {lsl : mLS} {stl st' : mST} {h h' : mMH} {a : Nat} (h1 : h'.1.1 = h.1.1) (h2 : h'.1.2.1 = h.1.2.1) (hk : h'.1.2.2.1 = h.1.2.2.1) (hk2 : h'.1.2.2.2.length = h.1.2.2.2.length) (hm : ∀ k, k ≠ a → h'.2 k = h.2 k) (hr : ∀ k, k ≠ a → mR h' k = mR h k) (hlive : (mK h a).1 ≠ 9) {pc' : Nat}
    (k : ∀ (H : Heap) (locs : List Loc) (ls : Array Slot) (cells slots : Nat), HR B b D aC h H → adr B b a = B + a → (∀ (H1 : Heap) (i : Nat), va_at D vwCl (adr B b a, oe B b aC h' a) H1 → H1.size = H.size → (∀ q : Nat, q ≠ adr B b a → H1[q]? = H[q]?) → W p l e R s m args below meth c H1 (locs ++ [⟨adr B b a, i⟩]) cells slots Q (F0 m pc' ls (st'.map (eV B b)))) → W p l e R s m args below meth c H locs cells slots Q (F0 m pc ls (stl.map (eV B b)))) :
    SOr P B b L xs D aC p l e R s m args below meth c md d c0 s0 Q pc lsl stl h (.inl (pc', (lsl, st'), h')) := by
  have e2 : mC h' = mC h := by show h'.1.2.1.1 = h.1.2.1.1; rw [h2]
  have e3 : mSl h' = mSl h := by show h'.1.2.1.2 = h.1.2.1.2; rw [h2]
  refine so_nx ⟨by omega, by omega⟩ fun _ _ kk H locs ls cells slots hH hS hl hc hs => ?_
  have hl1 := (hH.2.1 a hlive).1.1
  have e1 : adr B b a = B + a := adr_pos hl1
  refine k H locs ls cells slots hH e1 fun H1 i hat hz ho => ?_
  rw [e1] at hat ho ⊢
  exact kk H1 _ ls cells slots (hr_put hH (hH.2.1 a hlive).1.2 h1 hk hk2 hm hr hat hz ho) (va_Sp hS hz ho (by show B < B + a; omega)) hl (by omega) (by omega)

theorem so_putI {C : String} {T : u_T} {N cn k index : Nat} (X : Cx B b L xs D aC p l R s m args meth c md d) (hc : vwCl[cn]? = some (C, T, N)) (hk : k < N) (hw : Cond.fieldLink (dY md).cls index (T k).1 (T k).2.1 (T k).2.2.1 ∈ w_all ∨ ∃ host, Cond.fieldLinkNest (dY md).cls index (T k).1 (T k).2.1 (T k).2.2.1 host ∈ w_bad) (hfin : (T k).2.2.2 = false) (hty : tyC cn k = .int) (hd : decode (dB md) pc = .ok (.putfield index, 3)) : SO P B b L xs D aC p l e R s m args below meth c md d c0 s0 Q pc (mo_putI cn k (pc + 3)) := by
  obtain ⟨hx, hb, hml, hown, hts, hlk, hst, hK, hG, hRm, htb, hnm⟩ := X
  intro lsl stl h r hf
  unfold mo_putI at hf
  split at hf
  · rename_i x a r0
    obtain ⟨hq, hf⟩ := bq hf
    obtain rfl := Option.some.inj hf
    obtain ⟨k1, k2, k3, k4⟩ := cls_ok cn _ hc
    have hkq := kq_k hq
    refine so_wr (h := h) (h' := (h.1, up h.2 a k x)) (a := a) rfl rfl rfl rfl (fun k9 q9 => by funext j; simp [up, q9]) (fun _ _ => rfl) (by rw [hkq]; exact (by decide : ¬ (0 : Nat) = 9)) fun H locs ls cells slots hH e1 kk => ?_
    obtain ⟨-, h1⟩ := hr_0 hH hkq
    refine va_put2 (k := k) hx hb hts k1 (tyC cn) k2 k3 hown hK h1 hc hk (hw.elim (fun w => Or.inl (hts _ w)) (fun ⟨host, w⟩ => Or.inr ⟨host, va_Nw.use rfl (hG.2.2.2.2.2.1 _ w)⟩)) (fun _ h9 => h9) hfin (by rw [hty]; rfl) (by rw [hty]; rfl) (by rw [List.length_map, List.length_range, k4]; exact hk) hd fun H1 i hat hz ho => kk H1 i ?_ hz ho
    rw [oe_0 (show mK (h.1, up h.2 a k x) a = (0, cn) from hkq)]
    rw [← range_set (F' := fun j => eF B b (tyC cn j) (up h.2 a k x a j) (mR h a j)) (by simp [up, hty, eF, eV]) (fun j hj => by simp [up, hj])] at hat
    exact hat
  · cases hf

theorem so_putZ {C : String} {T : u_T} {N cn k index : Nat} (X : Cx B b L xs D aC p l R s m args meth c md d) (hc : vwCl[cn]? = some (C, T, N)) (hk : k < N) (hw : Cond.fieldLink (dY md).cls index (T k).1 (T k).2.1 (T k).2.2.1 ∈ w_all ∨ ∃ host, Cond.fieldLinkNest (dY md).cls index (T k).1 (T k).2.1 (T k).2.2.1 host ∈ w_bad) (hfin : (T k).2.2.2 = false) (hty : tyC cn k = .boolean) (hd : decode (dB md) pc = .ok (.putfield index, 3)) : SO P B b L xs D aC p l e R s m args below meth c md d c0 s0 Q pc (mo_putZ cn k (pc + 3)) := by
  obtain ⟨hx, hb, hml, hown, hts, hlk, hst, hK, hG, hRm, htb, hnm⟩ := X
  intro lsl stl h r hf
  unfold mo_putZ at hf
  split at hf
  · rename_i x a r0
    obtain ⟨hq, hf⟩ := bq hf
    obtain rfl := Option.some.inj hf
    obtain ⟨hq, hz⟩ := b2 hq
    have hz : x = 0 ∨ x = 1 := by simpa using hz
    obtain ⟨k1, k2, k3, k4⟩ := cls_ok cn _ hc
    have hkq := kq_k hq
    refine so_wr (h := h) (h' := (h.1, up h.2 a k x)) (a := a) rfl rfl rfl rfl (fun k9 q9 => by funext j; simp [up, q9]) (fun _ _ => rfl) (by rw [hkq]; exact (by decide : ¬ (0 : Nat) = 9)) fun H locs ls cells slots hH e1 kk => ?_
    obtain ⟨-, h1⟩ := hr_0 hH hkq
    refine va_put2 (k := k) hx hb hts k1 (tyC cn) k2 k3 hown hK h1 hc hk (hw.elim (fun w => Or.inl (hts _ w)) (fun ⟨host, w⟩ => Or.inr ⟨host, va_Nw.use rfl (hG.2.2.2.2.2.1 _ w)⟩)) (fun _ h9 => h9) hfin (by rw [hty]; rcases hz with rfl | rfl <;> rfl) (by rw [hty]; rcases hz with rfl | rfl <;> rfl) (by rw [List.length_map, List.length_range, k4]; exact hk) hd fun H1 i hat hz ho => kk H1 i ?_ hz ho
    rw [oe_0 (show mK (h.1, up h.2 a k x) a = (0, cn) from hkq)]
    rw [← range_set (F' := fun j => eF B b (tyC cn j) (up h.2 a k x a j) (mR h a j)) (by simp [up, hty, eF, eV]) (fun j hj => by simp [up, hj])] at hat
    exact hat
  · cases hf

theorem so_putJ {C : String} {T : u_T} {N cn k index : Nat} (X : Cx B b L xs D aC p l R s m args meth c md d) (hc : vwCl[cn]? = some (C, T, N)) (hk : k < N) (hw : Cond.fieldLink (dY md).cls index (T k).1 (T k).2.1 (T k).2.2.1 ∈ w_all ∨ ∃ host, Cond.fieldLinkNest (dY md).cls index (T k).1 (T k).2.1 (T k).2.2.1 host ∈ w_bad) (hfin : (T k).2.2.2 = false) (hty : tyC cn k = .long) (hd : decode (dB md) pc = .ok (.putfield index, 3)) : SO P B b L xs D aC p l e R s m args below meth c md d c0 s0 Q pc (mo_putJ cn k (pc + 3)) := by
  obtain ⟨hx, hb, hml, hown, hts, hlk, hst, hK, hG, hRm, htb, hnm⟩ := X
  intro lsl stl h r hf
  unfold mo_putJ at hf
  split at hf
  · rename_i x a r0
    obtain ⟨hq, hf⟩ := bq hf
    obtain rfl := Option.some.inj hf
    obtain ⟨k1, k2, k3, k4⟩ := cls_ok cn _ hc
    have hkq := kq_k hq
    refine so_wr (h := h) (h' := (h.1, up h.2 a k x)) (a := a) rfl rfl rfl rfl (fun k9 q9 => by funext j; simp [up, q9]) (fun _ _ => rfl) (by rw [hkq]; exact (by decide : ¬ (0 : Nat) = 9)) fun H locs ls cells slots hH e1 kk => ?_
    obtain ⟨-, h1⟩ := hr_0 hH hkq
    refine va_put2 (k := k) hx hb hts k1 (tyC cn) k2 k3 hown hK h1 hc hk (hw.elim (fun w => Or.inl (hts _ w)) (fun ⟨host, w⟩ => Or.inr ⟨host, va_Nw.use rfl (hG.2.2.2.2.2.1 _ w)⟩)) (fun _ h9 => h9) hfin (by rw [hty]; rfl) (by rw [hty]; rfl) (by rw [List.length_map, List.length_range, k4]; exact hk) hd fun H1 i hat hz ho => kk H1 i ?_ hz ho
    rw [oe_0 (show mK (h.1, up h.2 a k x) a = (0, cn) from hkq)]
    rw [← range_set (F' := fun j => eF B b (tyC cn j) (up h.2 a k x a j) (mR h a j)) (by simp [up, hty, eF, eV]) (fun j hj => by simp [up, hj])] at hat
    exact hat
  · cases hf

theorem so_putR {C : String} {T : u_T} {N cn k index : Nat} (X : Cx B b L xs D aC p l R s m args meth c md d) (hc : vwCl[cn]? = some (C, T, N)) (hk : k < N) (hw : Cond.fieldLink (dY md).cls index (T k).1 (T k).2.1 (T k).2.2.1 ∈ w_all) (hfin : (T k).2.2.2 = true) (hini : (dY md).name = "<init>") (hdecl : (T k).1 = (dY md).cls) (hty : (∃ C, tyC cn k = .object C) ∨ ∃ t, tyC cn k = .array t) (hd : decode (dB md) pc = .ok (.putfield index, 3)) : SO P B b L xs D aC p l e R s m args below meth c md d c0 s0 Q pc (mo_putR cn k (pc + 3)) := by
  obtain ⟨hx, hb, hml, hown, hts, hlk, hst, hK, hG, hRm, htb, hnm⟩ := X
  intro lsl stl h r hf
  unfold mo_putR at hf
  split at hf
  · rename_i x a r0
    obtain ⟨hq, hf⟩ := bq hf
    obtain rfl := Option.some.inj hf
    obtain ⟨k1, k2, k3, k4⟩ := cls_ok cn _ hc
    have hkq := kq_k hq
    refine so_wr (h := h) (h' := ((h.1.1, h.1.2.1, h.1.2.2.1, upR h.1.2.2.2 a k (some x)), h.2)) (a := a) rfl rfl rfl (List.length_set ..) (fun _ _ => rfl) (fun k9 q9 => upR_ne q9) (by rw [hkq]; exact (by decide : ¬ (0 : Nat) = 9)) fun H locs ls cells slots hH e1 kk => ?_
    obtain ⟨-, h1⟩ := hr_0 hH hkq
    refine va_put3 (k := k) hx hb hts k1 (tyC cn) k2 k3 hown hK h1 hc hk (hts _ hw) (fun _ h9 => h9) hfin (hnm.trans hini) hdecl (by rcases hty with ⟨C, h9⟩ | ⟨t, h9⟩ <;> rw [h9] <;> rfl) (by rcases hty with ⟨C, h9⟩ | ⟨t, h9⟩ <;> rw [h9] <;> rfl) (by rw [List.length_map, List.length_range, k4]; exact hk) hd fun H1 i hat hz ho => kk H1 i ?_ hz ho
    have hmr : mR (((h.1.1, h.1.2.1, h.1.2.2.1, upR h.1.2.2.2 a k (some x)), h.2) : mMH) a = ru (mR h a) k (some x) := upR_eq (by rw [hH.2.2.2.2.1]; exact (hr_live hH hkq (by omega)).1.2)
    rw [oe_0 (show mK (((h.1.1, h.1.2.1, h.1.2.2.1, upR h.1.2.2.2 a k (some x)), h.2) : mMH) a = (0, cn) from hkq), hmr]
    rw [← range_set (F' := fun j => eF B b (tyC cn j) (h.2 a j) (ru (mR h a) k (some x) j)) (by rcases hty with ⟨C, h9⟩ | ⟨t, h9⟩ <;> simp [ru, h9, eF, eV]) (fun j hj => by simp [ru, hj])] at hat
    exact hat
  · cases hf

theorem so_iald (X : Cx B b L xs D aC p l R s m args meth c md d) (hd : decode (dB md) pc = .ok (.iaload, 1)) : SO P B b L xs D aC p l e R s m args below meth c md d c0 s0 Q pc (mo_iald (pc + 1)) := by
  obtain ⟨hx, hb, hml, hown, hts, hlk, hst, hK, hG, hRm, htb, hnm⟩ := X
  intro lsl stl h r hf
  unfold mo_iald at hf
  split at hf
  · rename_i i a r0
    obtain ⟨hq, hf⟩ := bq hf
    obtain rfl := Option.some.inj hf
    refine so_pu fun H locs ls cells slots hH hS hl kk => ?_
    obtain ⟨e1, h1, h2, h3, h4, h5⟩ := hr_a hH hq (by decide)
    rw [oe_1 h2] at h1
    obtain ⟨c1, c2⟩ := ix_cl h4 h5 h3
    exact va_iald hx hb hK (va_1 h1) 0 0 rfl rfl c2 hd (by rw [c1]; exact kk)
  · cases hf

theorem so_lald (X : Cx B b L xs D aC p l R s m args meth c md d) (hd : decode (dB md) pc = .ok (.laload, 1)) : SO P B b L xs D aC p l e R s m args below meth c md d c0 s0 Q pc (mo_lald (pc + 1)) := by
  obtain ⟨hx, hb, hml, hown, hts, hlk, hst, hK, hG, hRm, htb, hnm⟩ := X
  intro lsl stl h r hf
  unfold mo_lald at hf
  split at hf
  · rename_i i a r0
    obtain ⟨hq, hf⟩ := bq hf
    obtain rfl := Option.some.inj hf
    refine so_pu fun H locs ls cells slots hH hS hl kk => ?_
    obtain ⟨e1, h1, h2, h3, h4, h5⟩ := hr_a hH hq (by decide)
    rw [oe_2 h2] at h1
    obtain ⟨c1, c2⟩ := ix_cl h4 h5 h3
    exact va_lald hx hb hK (va_1 h1) 0 1 rfl rfl c2 hd (by rw [c1]; exact kk)
  · cases hf

theorem so_aald {t : Nat} (X : Cx B b L xs D aC p l R s m args meth c md d) (h4 : 4 ≤ t) (h7 : t ≤ 7) (hd : decode (dB md) pc = .ok (.aaload, 1)) : SO P B b L xs D aC p l e R s m args below meth c md d c0 s0 Q pc (mo_aald t (pc + 1)) := by
  obtain ⟨hx, hb, hml, hown, hts, hlk, hst, hK, hG, hRm, htb, hnm⟩ := X
  intro lsl stl h r hf
  unfold mo_aald at hf
  split at hf
  · rename_i i a r0
    obtain ⟨hq, hf⟩ := bq hf
    obtain rfl := Option.some.inj hf
    refine so_pu fun H locs ls cells slots hH hS hl kk => ?_
    obtain ⟨e1, h1, h2, h3, h4', h5⟩ := hr_a hH hq (by omega)
    rw [oe_4 h2 h4] at h1
    obtain ⟨c1, c2⟩ := ix_cl h4' h5 h3
    have hty : (tyA t).isReference = true := by
      match t, h4, h7 with
      | 4, _, _ => rfl
      | 5, _, _ => rfl
      | 6, _, _ => rfl
      | 7, _, _ => rfl
    exact W.aald (v := va_rf ((mR h a i.toNat).map (adr B b))) (ty := tyA t) hx hb h1 ((hK.2 (t - 1) _ (ty_at hK t (by omega) h7)).1 _ (fun j => va_rf ((mR h a j).map (adr B b)))) hty (fun q => by cases q) (by show ¬ (_ ∨ (arrV _ _ _).slots.size ≤ _); rw [arrV_size]; exact c2) (by show (arrV _ _ _).slots[_]? = _; rw [c1, arrV_read _ _ h5]) rfl rfl hd kk
  · cases hf
theorem so_alen {t : Nat} (X : Cx B b L xs D aC p l R s m args meth c md d) (h1 : 1 ≤ t) (h7 : t ≤ 2) (hd : decode (dB md) pc = .ok (.arraylength, 1)) : SO P B b L xs D aC p l e R s m args below meth c md d c0 s0 Q pc (mo_alen t (pc + 1)) := by
  obtain ⟨hx, hb, hml, hown, hts, hlk, hst, hK, hG, hRm, htb, hnm⟩ := X
  intro lsl stl h r hf
  unfold mo_alen at hf
  split at hf
  · rename_i a r0
    obtain ⟨hq, hf⟩ := bq hf
    obtain rfl := Option.some.inj hf
    have hq := Nat.eq_of_beq_eq_true hq
    refine so_pu fun H locs ls cells slots hH hS hl kk => ?_
    obtain ⟨g1, g3, g2⟩ := hr_live hH (a := a) (t := (mK h a).1) (x := (mK h a).2) rfl (by rw [hq]; omega)
    have e1 : adr B b a = B + a := adr_pos g1.1
    rw [← e1] at g2
    have hsz : ∀ n : Nat, n ≤ 1000 → n.toInt32 = Int32.ofInt (n : Int) := fun n _ => rfl
    match t, h1, h7, hq with
    | 1, _, _, hq =>
      rw [oe_1 hq] at g2
      exact W.alen hx hb g2 ((hK.2 0 _ rfl).1 _ (fun j => .int (Int32.ofInt (h.2 a j)))) (by show (arrV _ _ _).slots.size.toInt32 = _; rw [arrV_size]; exact hsz _ g3) rfl rfl hd kk
    | 2, _, _, hq =>
      rw [oe_2 hq] at g2
      exact W.alen hx hb g2 ((hK.2 1 _ rfl).1 _ (fun j => .long (Int64.ofInt (h.2 a j)))) (by show (arrV _ _ _).slots.size.toInt32 = _; rw [arrV_size]; exact hsz _ g3) rfl rfl hd kk
  · cases hf
theorem so_slen (X : Cx B b L xs D aC p l R s m args meth c md d) (hd : decode (dB md) pc = .ok (.arraylength, 1)) : SO P B b L xs D aC p l e R s m args below meth c md d c0 s0 Q pc (mo_slen L (pc + 1)) := by
  obtain ⟨hx, hb, hml, hown, hts, hlk, hst, hK, hG, hRm, htb, hnm⟩ := X
  intro lsl stl h r hf
  unfold mo_slen at hf
  split at hf
  · rename_i r0
    obtain rfl := Option.some.inj hf
    refine so_pu fun H locs ls cells slots hH hS hl kk => ?_
    exact va_slen hx hb hG.2.1 (Nat.lt_of_le_of_lt hG.1.2 hG.1.1) (Nat.not_lt.mpr hG.1.2) hS hd kk
  · cases hf
theorem so_sld (X : Cx B b L xs D aC p l R s m args meth c md d) (hL : L ≤ 260) (hd : decode (dB md) pc = .ok (.iaload, 1)) : SO P B b L xs D aC p l e R s m args below meth c md d c0 s0 Q pc (mo_sld L xs (pc + 1)) := by
  obtain ⟨hx, hb, hml, hown, hts, hlk, hst, hK, hG, hRm, htb, hnm⟩ := X
  intro lsl stl h r hf
  unfold mo_sld at hf
  split at hf
  · rename_i i r0
    obtain ⟨hq, hf⟩ := bq hf
    obtain rfl := Option.some.inj hf
    obtain ⟨q1, q2⟩ := b2 hq
    have q1 := of_decide_eq_true q1
    have q2 := of_decide_eq_true q2
    have hi : inI i = true := by simp only [inI, Bool.and_eq_true, decide_eq_true_eq]; omega
    have c1 : (Int32.ofInt i).toNatClampNeg = i.toNat := by
      show (Int32.ofInt i).toInt.toNat = _
      rw [i32 hi]
    have c2 : vp_in (Int32.ofInt i) L := by
      intro q
      rcases q with q | q
      · rw [Int32.lt_iff_toInt_lt, i32 hi, Int32.toInt_zero] at q; omega
      · rw [c1] at q; omega
    refine so_pu fun H locs ls cells slots hH hS hl kk => ?_
    exact va_sld hx hb hG.2.1 (Nat.lt_of_le_of_lt hG.1.2 hG.1.1) (Nat.not_lt.mpr hG.1.2) hS c2 hd (by rw [c1, ← Int32.ofInt_toInt (xs i.toNat)]; exact kk)
  · cases hf

theorem so_iast (X : Cx B b L xs D aC p l R s m args meth c md d) (hd : decode (dB md) pc = .ok (.iastore, 1)) : SO P B b L xs D aC p l e R s m args below meth c md d c0 s0 Q pc (mo_iast (pc + 1)) := by
  obtain ⟨hx, hb, hml, hown, hts, hlk, hst, hK, hG, hRm, htb, hnm⟩ := X
  intro lsl stl h r hf
  unfold mo_iast at hf
  split at hf
  · rename_i x i a r0
    obtain ⟨hq, hf⟩ := bq hf
    obtain rfl := Option.some.inj hf
    have hk1 := (ka_k hq).1
    refine so_wr (h := h) (h' := (h.1, up h.2 a i.toNat x)) (a := a) rfl rfl rfl rfl (fun k9 q9 => by funext j; simp [up, q9]) (fun _ _ => rfl) (by rw [hk1]; decide) fun H locs ls cells slots hH e1 kk => ?_
    obtain ⟨-, h1, h2, h3, h4, h5⟩ := hr_a hH hq (by decide)
    rw [oe_1 h2] at h1
    obtain ⟨c1, c2⟩ := ix_cl h4 h5 h3
    refine W.iast hx hb h1 ((hK.2 0 _ rfl).1 _ (fun j => .int (Int32.ofInt (h.2 a j)))) (fun q => by cases q) (by show ¬ (_ ∨ (arrV _ _ _).slots.size ≤ _); rw [arrV_size]; exact c2) rfl rfl hd fun H1 e z oq => kk H1 _ ?_ z oq
    rw [oe_1 (show (mK (h.1, up h.2 a i.toNat x) a).1 = 1 from h2)]
    show H1[_]? = some (vp_cell _ _)
    rw [e, vp_cell_i, vp_cell_i, arrV_store, c1]
    congr 2
    funext q
    by_cases hq : q = i.toNat
    · subst hq; simp [updV, up]
    · simp [updV, up, hq]
  · cases hf

theorem so_last (X : Cx B b L xs D aC p l R s m args meth c md d) (hd : decode (dB md) pc = .ok (.lastore, 1)) : SO P B b L xs D aC p l e R s m args below meth c md d c0 s0 Q pc (mo_last (pc + 1)) := by
  obtain ⟨hx, hb, hml, hown, hts, hlk, hst, hK, hG, hRm, htb, hnm⟩ := X
  intro lsl stl h r hf
  unfold mo_last at hf
  split at hf
  · rename_i x i a r0
    obtain ⟨hq, hf⟩ := bq hf
    obtain rfl := Option.some.inj hf
    have hk1 := (ka_k hq).1
    refine so_wr (h := h) (h' := (h.1, up h.2 a i.toNat x)) (a := a) rfl rfl rfl rfl (fun k9 q9 => by funext j; simp [up, q9]) (fun _ _ => rfl) (by rw [hk1]; decide) fun H locs ls cells slots hH e1 kk => ?_
    obtain ⟨-, h1, h2, h3, h4, h5⟩ := hr_a hH hq (by decide)
    rw [oe_2 h2] at h1
    obtain ⟨c1, c2⟩ := ix_cl h4 h5 h3
    refine W.last hx hb h1 ((hK.2 1 _ rfl).1 _ (fun j => .long (Int64.ofInt (h.2 a j)))) (fun q => by cases q) (by show ¬ (_ ∨ (arrV _ _ _).slots.size ≤ _); rw [arrV_size]; exact c2) rfl rfl hd fun H1 e z oq => kk H1 _ ?_ z oq
    rw [oe_2 (show (mK (h.1, up h.2 a i.toNat x) a).1 = 2 from h2)]
    show H1[_]? = some (vp_cell _ _)
    rw [e, vp_cell_l, vp_cell_l, arrV_store, c1]
    congr 2
    funext q
    by_cases hq : q = i.toNat
    · subst hq; simp [updV, up]
    · simp [updV, up, hq]
  · cases hf

theorem so_aast {t cn : Nat} {q : vw_C} (X : Cx B b L xs D aC p l R s m args meth c md d) (ht : t = 6 ∨ t = 7) (hc : vwCl[cn]? = some q) (htc : tyA t = .object q.1) (hd : decode (dB md) pc = .ok (.aastore, 1)) : SO P B b L xs D aC p l e R s m args below meth c md d c0 s0 Q pc (mo_aast t cn (pc + 1)) := by
  obtain ⟨hx, hb, hml, hown, hts, hlk, hst, hK, hG, hRm, htb, hnm⟩ := X
  intro lsl stl h r hf
  unfold mo_aast at hf
  split at hf
  · rename_i v i a r0
    obtain ⟨hq, hf⟩ := bq hf
    obtain rfl := Option.some.inj hf
    obtain ⟨hq, hv⟩ := b2 hq
    have hk1 := (ka_k hq).1
    refine so_wr (h := h) (h' := ((h.1.1, h.1.2.1, h.1.2.2.1, upR h.1.2.2.2 a i.toNat (some v)), h.2)) (a := a) rfl rfl rfl (List.length_set ..) (fun _ _ => rfl) (fun k9 q9 => upR_ne q9) (by rw [hk1]; omega) fun H locs ls cells slots hH e1 kk => ?_
    obtain ⟨-, h1, h2, h3, h4, h5⟩ := hr_a hH hq (by omega)
    rw [oe_4 h2 (by omega)] at h1
    obtain ⟨c1, c2⟩ := ix_cl h4 h5 h3
    obtain ⟨e3, r', hr', cellV, g1, g2, g3, -⟩ := hr_0 hH (kq_k hv)
    have hcls := (hK.1 cn q hc).2
    have hRA := (hK.2 (t - 1) _ (ty_at hK t (by omega) (by omega))).2
    rw [htc] at hRA
    obtain ⟨kA, comp, k1, k2, k3, -⟩ := hRA
    have hcomp : comp = D.1 cn := Option.some.inj (k3.symm.trans hcls.1)
    subst hcomp
    obtain ⟨kC, hkC, -⟩ := hcls.2
    refine W.aast hx hb h1 (fun q h => by cases h) (fun h => by cases h) k1 k2 rfl hkC ⟨fun z => c2 (Or.inl z), by show _ < (arrV _ _ _).slots.size; rw [arrV_size, c1]; exact h5⟩ g1 (fun q h => by rw [g3] at h; cases h) (by rw [g2]; exact hkC) (by rw [g2]; exact va_assign hcls) rfl rfl hd fun H1 e z oq => kk H1 _ ?_ z oq
    have hmr : mR (((h.1.1, h.1.2.1, h.1.2.2.1, upR h.1.2.2.2 a i.toNat (some v)), h.2) : mMH) a = ru (mR h a) i.toNat (some v) := upR_eq (by rw [hH.2.2.2.2.1]; exact (hH.2.1 a (by rw [h2]; omega)).1.2)
    rw [oe_4 (show (mK (((h.1.1, h.1.2.1, h.1.2.2.1, upR h.1.2.2.2 a i.toNat (some v)), h.2) : mMH) a).1 = t from h2) (by omega), hmr]
    show H1[_]? = some (vp_cell _ _)
    rw [e, vp_cell_q, vp_cell_q, arrV_store, c1]
    congr 2
    funext q
    show _ = va_rf (Option.map (adr B b) (ru (mR h a) i.toNat (some v) q))
    by_cases hq : q = i.toNat
    · subst hq; simp [updV, ru, va_rf]
    · simp [updV, ru, hq]
  · cases hf
end SOH
