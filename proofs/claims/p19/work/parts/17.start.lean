-- ===== end of PART A; then your names; then what follows =====
/-! THE CLAIM OUT OF ONE WALK OF THE LAW'S BODY. Your part is whole_start (and what it stands on); all else here is the same for every law, but numbers. -/
def R_law : String := "TrellistagLaw"
def lw_P (b : Addr) (xs : List Int32) (args : Array Value) (s : State) : Prop := args = #[.ref b] ∧ s.IntsAt b xs ∧ xs.length ≤ 260 ∧ (Jvm.Cond.and given_1 narrow_1).before args s = true
def lw_Q (_ : Array Value) (s : State) (o : Outcome) (t : State) : Prop := o = .returned (some (.int 1)) ∧ Framed s o t [] 600172 7300668
def lw_Z (below : List Frame) (a : Array Value) (s : State) : State → Prop := fun t => ∃ o, t.status = .running ∧ Ended t below o ∧ lw_Q a s o t
/-- the law's own end, with 1 on the stack, nothing written that was there before, its room as the claim has it -/
theorem lw_ret {p : Program} {l : Launch} {e : Env} {s : State} {m : MethodId} {below : List Frame} {meth : Method} {c : Code} {b : Nat} (hx : p.tables.exec = Jvm.exec) (hb : c.code = code) (hr : meth.sig.returnType = ret) (hlocks : meth.locks = false) {pc : Nat} {H : Heap} {ls : Array Slot} (hdg : decode code pc = .ok (.ireturn, 1)) : W p l e room_1 s m #[Value.ref b] below meth c H [] 600172 7300668 (lw_Z below #[Value.ref b] s) (F0 m pc ls [.int 1]) := by
  intro T hT X
  obtain ⟨fs, hret, hrun, hended, hW, hframe⟩ := X.leave (v := some (.int 1)) (hlocks := hlocks) (fun h => by rw [hr] at h; cases h)
  have hmeth' : T.vm.method? m = some meth := X.method'
  refine ⟨T.setFrames fs, ?_, .returned (some (.int 1)), hrun, hended, rfl, ⟨_, rfl⟩, hW, hframe⟩
  jvm_step X.here [X.here.top, hx, hb, hdg, hmeth', hr, ret, narrow_b1]
  (try refine ⟨rfl, ?_⟩); (try refine ⟨rfl, ?_⟩)
  first | (intro acts; rw [hret _ acts rfl rfl rfl]) | rw [hret _ _ rfl rfl rfl]
  exact Steps.refl _
/-- what holds at the law's entry: the machine, the code, the tables' words (any of lw_tbl by 'hts w (by decide +kernel)'), the script of L ints xs at the cell b, what the Statement gives of the start (any of its parts by flat_of_before) -/
def lw_At (p : Program) (s : State) (m : MethodId) (meth : Method) (c : Code) (b L : Nat) (xs : Nat → Int32) : Prop :=
  p.tables.exec = Jvm.exec ∧ c.code = code ∧ meth.sig.returnType = ret ∧ c.maxLocals = 20 ∧ s.vm.findClass R_law = some m.cls ∧ (∀ w ∈ lw_tbl, w.before #[Value.ref b] s = true) ∧ va_X b L xs s s.heap ∧ b < s.heap.size ∧ meth.locks = false ∧ (Jvm.Cond.and given_1 narrow_1).before #[Value.ref b] s = true ∧ c.exceptionTable.toList = [] ∧ meth.name = "law"

/-! ===== the law's start ===== -/
def h00 : mMH := (((1, true), (0, 0), [(9, 0)], [r_no]), fun _ _ => 0)
theorem h00_k (j : Nat) : (mK h00 j).1 = 9 := by
  match j with
  | 0 => rfl
  | j + 1 => rfl
theorem st_cls : ∀ (k : Nat) (q : vw_C), vwCl[k]? = some q → Cond.instantiable q.1 q.2.2 ∈ lw_tbl := by
  intro k q hq
  match k, hq with
  | 0, hq => cases hq; exact List.mem_of_getElem? (i := 184) (by decide +kernel)
  | 1, hq => cases hq; exact List.mem_of_getElem? (i := 58) (by decide +kernel)
  | 2, hq => cases hq; exact List.mem_of_getElem? (i := 122) (by decide +kernel)
  | 3, hq => cases hq; exact List.mem_of_getElem? (i := 154) (by decide +kernel)
  | 4, hq => cases hq; exact List.mem_of_getElem? (i := 106) (by decide +kernel)
  | 5, hq => cases hq; exact List.mem_of_getElem? (i := 67) (by decide +kernel)
  | 6, hq => cases hq; exact List.mem_of_getElem? (i := 142) (by decide +kernel)
  | 7, hq => cases hq; exact List.mem_of_getElem? (i := 45) (by decide +kernel)
  | 8, hq => cases hq; exact List.mem_of_getElem? (i := 37) (by decide +kernel)
  | k + 9, hq => simp [vwCl] at hq
theorem st_K {s : State} {args : Array Value} (hts : ∀ w ∈ lw_tbl, w.before args s = true) : ∃ (D : va_G) (aC : Nat → ClassId), va_K D vwCl (tysL aC) s := by
  have hal : ∀ w ∈ w_all, w.before args s = true := fun w hw => hts w (List.mem_filter.mp hw).1
  have h1 : ∀ k : Nat, ∃ cd : ClassId × (Nat → Nat), ∀ q : vw_C, vwCl[k]? = some q → u_Kn s q.1 q.2.1 q.2.2 cd.1 cd.2 := by
    intro k
    cases hq : vwCl[k]? with
    | none => exact ⟨(0, fun _ => 0), fun q h => by cases h⟩
    | some q =>
      obtain ⟨cC, iS, h⟩ := u_known hal (cls_ok k q hq).1 (hts _ (st_cls k q hq))
      exact ⟨(cC, iS), fun q' h' => by cases h'; exact h⟩
  have prim : ∀ ty : FieldType, (∀ C, ty ≠ .object C) → (Cond.arrayClass ty).before args s = true → ∃ cA, ArrOfT s cA ty ∧ va_RA s cA ty := by
    intro ty hty h
    obtain ⟨c9, k9, comp, f1, f2, f3⟩ := Cond.arrayClass_spec h
    refine ⟨c9, fun N z => ⟨(fun k h => by cases h), k9, f2, comp, f3⟩, ?_⟩
    unfold va_RA
    split
    · exact absurd rfl (hty _)
    · exact f1
  have arr : ∀ t : FieldType, (Cond.arrayOver (.array t)).before args s = true → ∃ cA, ArrOfT s cA (.array t) ∧ va_RA s cA (.array t) := by
    intro t h
    obtain ⟨comp, c9, k9, f1, f2, f3, f4⟩ := Cond.arrayOver_specA h
    exact ⟨c9, fun N z => ⟨(fun k h => by cases h), k9, f2, comp, f3⟩, f4⟩
  have obj : ∀ C : String, (Cond.arrayOver (.object C)).before args s = true → ∃ cA, ArrOfT s cA (.object C) ∧ va_RA s cA (.object C) := by
    intro C h
    obtain ⟨comp, c9, k9, f1, -, f2, f3, f4⟩ := Cond.arrayOver_spec h
    exact ⟨c9, fun N z => ⟨(fun k h => by cases h), k9, f2, comp, f3⟩, k9, comp, f2, f3, f1, f4⟩
  have h2 : ∀ t : Nat, ∃ cA : ClassId, 1 ≤ t → t ≤ 7 → ArrOfT s cA (tyA t) ∧ va_RA s cA (tyA t) := by
    intro t
    by_cases ht : 1 ≤ t ∧ t ≤ 7
    · rcases (show t = 1 ∨ t = 2 ∨ t = 3 ∨ t = 4 ∨ t = 5 ∨ t = 6 ∨ t = 7 by omega) with rfl | rfl | rfl | rfl | rfl | rfl | rfl
      · obtain ⟨cA, h⟩ := prim .int (fun _ h => by cases h) (hts _ (List.mem_of_getElem? (i := 88) (by decide +kernel)))
        exact ⟨cA, fun _ _ => h⟩
      · obtain ⟨cA, h⟩ := prim .long (fun _ h => by cases h) (hts _ (List.mem_of_getElem? (i := 169) (by decide +kernel)))
        exact ⟨cA, fun _ _ => h⟩
      · obtain ⟨cA, h⟩ := prim .int (fun _ h => by cases h) (hts _ (List.mem_of_getElem? (i := 88) (by decide +kernel)))
        exact ⟨cA, fun _ _ => h⟩
      · obtain ⟨cA, h⟩ := arr .int (hts _ (List.mem_of_getElem? (i := 66) (by decide +kernel)))
        exact ⟨cA, fun _ _ => h⟩
      · obtain ⟨cA, h⟩ := arr .long (hts _ (List.mem_of_getElem? (i := 153) (by decide +kernel)))
        exact ⟨cA, fun _ _ => h⟩
      · obtain ⟨cA, h⟩ := obj "Trellistag$Text" (hts _ (List.mem_of_getElem? (i := 64) (by decide +kernel)))
        exact ⟨cA, fun _ _ => h⟩
      · obtain ⟨cA, h⟩ := obj "Trellistag$Ranking" (hts _ (List.mem_of_getElem? (i := 151) (by decide +kernel)))
        exact ⟨cA, fun _ _ => h⟩
    · exact ⟨0, fun a b => absurd ⟨a, b⟩ ht⟩
  obtain ⟨f, hf⟩ := Classical.axiomOfChoice h1
  obtain ⟨g, hg⟩ := Classical.axiomOfChoice h2
  refine ⟨(fun k => (f k).1, fun k => (f k).2), g, fun k q hq => hf k q hq, fun k q hq => ?_⟩
  match k, hq with
  | 0, hq => cases hq; exact hg 1 (by omega) (by omega)
  | 1, hq => cases hq; exact hg 2 (by omega) (by omega)
  | 2, hq => cases hq; exact hg 3 (by omega) (by omega)
  | 3, hq => cases hq; exact hg 4 (by omega) (by omega)
  | 4, hq => cases hq; exact hg 5 (by omega) (by omega)
  | 5, hq => cases hq; exact hg 6 (by omega) (by omega)
  | 6, hq => cases hq; exact hg 7 (by omega) (by omega)
  | k + 7, hq => simp [tysL] at hq
theorem st_str : w_str.all (fun q => decide (Cond.stringRef "Trellistag" q.1 q.2 ∈ lw_tbl) && decide (Cond.exactly (.string "Trellistag" q.1) "java/lang/String" ∈ flatC (Cond.and given_1 narrow_1))) = true := by decide +kernel
theorem st_over : w_over.all (fun t => decide (Cond.arrayOver t ∈ lw_tbl)) = true := by decide +kernel
theorem st_nc : ∀ E F : Nat, E < 3 → F < 3 → E ≠ F → Cond.not (.castable (en E) (en F)) ∈ flatC (Cond.and given_1 narrow_1) := by
  intro E F hE hF hn
  rcases (show E = 0 ∨ E = 1 ∨ E = 2 by omega) with rfl | rfl | rfl <;> rcases (show F = 0 ∨ F = 1 ∨ F = 2 by omega) with rfl | rfl | rfl <;> first | exact absurd rfl hn | decide +kernel
theorem st_G {s : State} {b L : Nat} {xs : Nat → Int32} (hts : ∀ w ∈ lw_tbl, w.before #[Value.ref b] s = true) (hX : va_X b L xs s s.heap) (hb : b < s.heap.size) (hgv : (Jvm.Cond.and given_1 narrow_1).before #[Value.ref b] s = true) : Gl (s.heap.size - 1) b L xs s s.heap := by
  have hfl := flat_of_before _ hgv
  have hA : ∀ a : Nat, a < s.heap.size → ¬ (s.heap.size - 1 < a) := fun a h => by omega
  have hini : (Cond.initialized "java/lang/Throwable").before #[Value.ref b] s = true := hts _ (List.mem_of_getElem? (i := 29) (by decide +kernel))
  refine ⟨⟨by omega, by omega⟩, hX, vx_Zqof (hts _ (List.mem_of_getElem? (i := 274) (by decide +kernel))) hini (hfl _ (by decide +kernel)) hA, vx_Zqof (hts _ (List.mem_of_getElem? (i := 276) (by decide +kernel))) hini (hfl _ (by decide +kernel)) hA, fun q hq => ?_, fun w hw => ?_, fun t ht => ?_, fun E F hE hF hn => va_Nc.of (hfl _ (st_nc E F hE hF hn))⟩
  · have h9 := List.all_eq_true.mp st_str q hq
    rw [Bool.and_eq_true, decide_eq_true_eq, decide_eq_true_eq] at h9
    obtain ⟨a, c9, cell, k9, e1, -⟩ := Cond.exactly_spec (hfl _ h9.2)
    exact ⟨a, vk_R.of (hts _ h9.1) e1⟩
  · exact va_Nw.of (w_tab (List.mem_filter.mp hw).2) (hts w (List.mem_filter.mp hw).1)
  · have h9 := List.all_eq_true.mp st_over t ht
    rw [decide_eq_true_eq] at h9
    exact hts _ h9
/-- the law's walk, out of one run of the small machine -/
theorem law_run {p : Program} {e : Env} {s : State} {m : MethodId} {below : List Frame} {meth : Method} {c : Code} (l : Launch) (hflags : l.flags = flags0) {b L : Nat} {xs : Nat → Int32} (hL : L ≤ 260) (C0 : lw_At p s m meth c b L xs) {n : Nat} {h' : mMH} (hrun : run (PP L xs) n 13 96 0 (entL 20 [vR (some 0)]) [] h00 = some (.inl (some (vI 1)), h')) (hc9 : mC h' ≤ 600172) (hs9 : mSl h' ≤ 7300668) : W p l e room_1 s m #[Value.ref b] below meth c s.heap [] 0 0 (lw_Z below #[Value.ref b] s) (entryFrame m ([Value.ref b] : List Value).toArray 20) := by
  obtain ⟨hx, hb, hr, hml, hown, hts, hX, hbl, hlocks, hgv, ht9, hnm9⟩ := C0
  obtain ⟨D, aC, hK⟩ := st_K hts
  have hG := st_G hts hX hbl hgv
  have hst : l.stackTraces = false := by
    show (!l.flags.contains noTraceFlag) = false
    rw [hflags]; decide +kernel
  have htab : c.exceptionTable.toList = tableOf (dH (PP L xs 96)) := ht9
  have X : Cx (s.heap.size - 1) b L xs D aC p l room_1 s m #[Value.ref b] meth c (PP L xs 96) 13 := ⟨hx, hb, hml, hown, fun w hw => hts w (List.mem_filter.mp hw).1, hlocks, hst, hK, hG, ⟨by decide, by decide⟩, htab, hnm9⟩
  have k := (runs hL n 13 96 0 _ _ h00 _ h' hrun (s.heap.size - 1) b D aC p l e room_1 s m #[Value.ref b] below meth c 0 0 (lw_Z below #[Value.ref b] s) X).2 (by show mC h' ≤ 0 + 600172; omega) (by show mSl h' ≤ 0 + 7300668; omega) ?_
  · have hls := ent_ls (B := s.heap.size - 1) (b := b) (n := 20) (as := [vR (some 0)]) (by decide)
    rw [lg_entry_eq]
    refine k s.heap [] _ 0 0 ⟨⟨fun _ => by show s.heap.size = s.heap.size - 1 + 1; omega, by show s.heap.size - 1 + 1 ≤ s.heap.size; omega, Nat.le_refl _⟩, fun j hj => absurd (h00_k j) hj, fun j hj => absurd (h00_k j) hj, rfl, rfl, fun a ha => rfl⟩ va_S.rf hls rfl rfl
  · intro H locs ls cells slots pc ig hH hS hc hs hd hig
    rcases hig with ⟨rfl, -⟩ | ⟨-, x, h, -⟩ | ⟨-, a, C, h, -⟩ | ⟨-, h, -⟩
    · refine va_forget (fun q hq => by have := hS.2.2 q hq; omega) ?_
      refine W.widen (k := 600172) (n := 7300668) (by omega) (by omega) ?_
      exact lw_ret hx hb hr hlocks hd
    · cases h
    · cases h
    · cases h
