section
-- ===== PART A: goes FIRST, ahead of the names: the tables' words, and 'selects' of the private methods out of them =====
/-- a private method of a class that the tables say can be made, by its rows of tables_1 -/
def lw_okq (q : MethodName × Nat) : Prop := (q.1.cls ≠ "java/lang/invoke/MethodHandle" ∧ q.1.cls ≠ "java/lang/invoke/VarHandle") ∧ Cond.instantiable q.1.cls q.2 ∈ tables_1 ∧ Cond.privateMethod q.1 ∈ tables_1 ∧ Cond.instanceMethod q.1 ∈ tables_1
theorem lw_p0 : lw_okq (⟨"java/lang/Throwable", "fillInStackTrace", "(I)Ljava/lang/Throwable;"⟩, 6) := ⟨⟨by decide +kernel, by decide +kernel⟩, List.mem_of_getElem? (i := 279) (by decide +kernel), List.mem_of_getElem? (i := 277) (by decide +kernel), List.mem_of_getElem? (i := 278) (by decide +kernel)⟩
theorem lw_p1 : lw_okq (⟨"Trellistag", "requireTyped", "()V"⟩, 9) := ⟨⟨by decide +kernel, by decide +kernel⟩, List.mem_of_getElem? (i := 20) (by decide +kernel), List.mem_of_getElem? (i := 363) (by decide +kernel), List.mem_of_getElem? (i := 364) (by decide +kernel)⟩
theorem lw_p2 : lw_okq (⟨"Trellistag$Corpus", "change", "(LTrellistag$Text;I)V"⟩, 5) := ⟨⟨by decide +kernel, by decide +kernel⟩, List.mem_of_getElem? (i := 41) (by decide +kernel), List.mem_of_getElem? (i := 414) (by decide +kernel), List.mem_of_getElem? (i := 415) (by decide +kernel)⟩
theorem lw_p3 : lw_okq (⟨"Trellistag", "requirePlace", "(I)V"⟩, 9) := ⟨⟨by decide +kernel, by decide +kernel⟩, List.mem_of_getElem? (i := 20) (by decide +kernel), List.mem_of_getElem? (i := 454) (by decide +kernel), List.mem_of_getElem? (i := 455) (by decide +kernel)⟩
theorem lw_p4 : lw_okq (⟨"Trellistag", "tagOnPath", "(LTrellistag$PathFinder;II)I"⟩, 9) := ⟨⟨by decide +kernel, by decide +kernel⟩, List.mem_of_getElem? (i := 20) (by decide +kernel), List.mem_of_getElem? (i := 519) (by decide +kernel), List.mem_of_getElem? (i := 520) (by decide +kernel)⟩
theorem lw_p5 : lw_okq (⟨"Trellistag", "rankPaths", "(LTrellistag$PathFinder;)V"⟩, 9) := ⟨⟨by decide +kernel, by decide +kernel⟩, List.mem_of_getElem? (i := 20) (by decide +kernel), List.mem_of_getElem? (i := 527) (by decide +kernel), List.mem_of_getElem? (i := 528) (by decide +kernel)⟩
theorem lw_p6 : lw_okq (⟨"Trellistag$Lattice", "ruleOut", "(I)V"⟩, 4) := ⟨⟨by decide +kernel, by decide +kernel⟩, List.mem_of_getElem? (i := 105) (by decide +kernel), List.mem_of_getElem? (i := 542) (by decide +kernel), List.mem_of_getElem? (i := 543) (by decide +kernel)⟩
theorem lw_p7 : lw_okq (⟨"Trellistag$AllPaths", "countPaths", "()I"⟩, 4) := ⟨⟨by decide +kernel, by decide +kernel⟩, List.mem_of_getElem? (i := 167) (by decide +kernel), List.mem_of_getElem? (i := 564) (by decide +kernel), List.mem_of_getElem? (i := 565) (by decide +kernel)⟩
theorem lw_p8 : lw_okq (⟨"Trellistag$AllPaths", "startWalk", "()V"⟩, 4) := ⟨⟨by decide +kernel, by decide +kernel⟩, List.mem_of_getElem? (i := 167) (by decide +kernel), List.mem_of_getElem? (i := 568) (by decide +kernel), List.mem_of_getElem? (i := 569) (by decide +kernel)⟩
theorem lw_p9 : lw_okq (⟨"Trellistag$AllPaths", "weighFrom", "(I)V"⟩, 4) := ⟨⟨by decide +kernel, by decide +kernel⟩, List.mem_of_getElem? (i := 167) (by decide +kernel), List.mem_of_getElem? (i := 572) (by decide +kernel), List.mem_of_getElem? (i := 573) (by decide +kernel)⟩
theorem lw_p10 : lw_okq (⟨"Trellistag$Ranking", "insert", "(IJI)V"⟩, 3) := ⟨⟨by decide +kernel, by decide +kernel⟩, List.mem_of_getElem? (i := 137) (by decide +kernel), List.mem_of_getElem? (i := 587) (by decide +kernel), List.mem_of_getElem? (i := 588) (by decide +kernel)⟩
theorem lw_p11 : lw_okq (⟨"Trellistag$AllPaths", "goOn", "()V"⟩, 4) := ⟨⟨by decide +kernel, by decide +kernel⟩, List.mem_of_getElem? (i := 167) (by decide +kernel), List.mem_of_getElem? (i := 592) (by decide +kernel), List.mem_of_getElem? (i := 593) (by decide +kernel)⟩
theorem lw_p12 : lw_okq (⟨"Trellistag$Trellis", "rankUpTo", "(II)V"⟩, 4) := ⟨⟨by decide +kernel, by decide +kernel⟩, List.mem_of_getElem? (i := 125) (by decide +kernel), List.mem_of_getElem? (i := 600) (by decide +kernel), List.mem_of_getElem? (i := 601) (by decide +kernel)⟩
theorem lw_p13 : lw_okq (⟨"Trellistag$Trellis", "rankingAt", "(II)LTrellistag$Ranking;"⟩, 4) := ⟨⟨by decide +kernel, by decide +kernel⟩, List.mem_of_getElem? (i := 125) (by decide +kernel), List.mem_of_getElem? (i := 604) (by decide +kernel), List.mem_of_getElem? (i := 605) (by decide +kernel)⟩
theorem lw_p14 : lw_okq (⟨"Trellistag", "requireSentence", "()V"⟩, 9) := ⟨⟨by decide +kernel, by decide +kernel⟩, List.mem_of_getElem? (i := 20) (by decide +kernel), List.mem_of_getElem? (i := 639) (by decide +kernel), List.mem_of_getElem? (i := 640) (by decide +kernel)⟩
theorem lw_p15 : lw_okq (⟨"Trellistag", "shareOfTag", "(LTrellistag$PathFinder;II)I"⟩, 9) := ⟨⟨by decide +kernel, by decide +kernel⟩, List.mem_of_getElem? (i := 20) (by decide +kernel), List.mem_of_getElem? (i := 666) (by decide +kernel), List.mem_of_getElem? (i := 667) (by decide +kernel)⟩
def lw_privs_1 : List (MethodName × Nat) := [(⟨"java/lang/Throwable", "fillInStackTrace", "(I)Ljava/lang/Throwable;"⟩, 6), (⟨"Trellistag", "requireTyped", "()V"⟩, 9), (⟨"Trellistag$Corpus", "change", "(LTrellistag$Text;I)V"⟩, 5), (⟨"Trellistag", "requirePlace", "(I)V"⟩, 9), (⟨"Trellistag", "tagOnPath", "(LTrellistag$PathFinder;II)I"⟩, 9), (⟨"Trellistag", "rankPaths", "(LTrellistag$PathFinder;)V"⟩, 9), (⟨"Trellistag$Lattice", "ruleOut", "(I)V"⟩, 4), (⟨"Trellistag$AllPaths", "countPaths", "()I"⟩, 4), (⟨"Trellistag$AllPaths", "startWalk", "()V"⟩, 4), (⟨"Trellistag$AllPaths", "weighFrom", "(I)V"⟩, 4), (⟨"Trellistag$Ranking", "insert", "(IJI)V"⟩, 3), (⟨"Trellistag$AllPaths", "goOn", "()V"⟩, 4), (⟨"Trellistag$Trellis", "rankUpTo", "(II)V"⟩, 4), (⟨"Trellistag$Trellis", "rankingAt", "(II)LTrellistag$Ranking;"⟩, 4), (⟨"Trellistag", "requireSentence", "()V"⟩, 9), (⟨"Trellistag", "shareOfTag", "(LTrellistag$PathFinder;II)I"⟩, 9)]
theorem lw_r1 : ∀ q ∈ lw_privs_1, lw_okq q := List.forall_mem_cons.mpr ⟨lw_p0, List.forall_mem_cons.mpr ⟨lw_p1, List.forall_mem_cons.mpr ⟨lw_p2, List.forall_mem_cons.mpr ⟨lw_p3, List.forall_mem_cons.mpr ⟨lw_p4, List.forall_mem_cons.mpr ⟨lw_p5, List.forall_mem_cons.mpr ⟨lw_p6, List.forall_mem_cons.mpr ⟨lw_p7, List.forall_mem_cons.mpr ⟨lw_p8, List.forall_mem_cons.mpr ⟨lw_p9, List.forall_mem_cons.mpr ⟨lw_p10, List.forall_mem_cons.mpr ⟨lw_p11, List.forall_mem_cons.mpr ⟨lw_p12, List.forall_mem_cons.mpr ⟨lw_p13, List.forall_mem_cons.mpr ⟨lw_p14, List.forall_mem_cons.mpr ⟨lw_p15, fun _ h => absurd h List.not_mem_nil⟩⟩⟩⟩⟩⟩⟩⟩⟩⟩⟩⟩⟩⟩⟩⟩
theorem lw_p16 : lw_okq (⟨"Trellistag$Trellis", "sumAhead", "(II)J"⟩, 4) := ⟨⟨by decide +kernel, by decide +kernel⟩, List.mem_of_getElem? (i := 125) (by decide +kernel), List.mem_of_getElem? (i := 679) (by decide +kernel), List.mem_of_getElem? (i := 680) (by decide +kernel)⟩
theorem lw_p17 : lw_okq (⟨"Trellistag$Trellis", "sumBehind", "(II)J"⟩, 4) := ⟨⟨by decide +kernel, by decide +kernel⟩, List.mem_of_getElem? (i := 125) (by decide +kernel), List.mem_of_getElem? (i := 683) (by decide +kernel), List.mem_of_getElem? (i := 684) (by decide +kernel)⟩
theorem lw_p18 : lw_okq (⟨"TrellistagModel", "holds", "(I)Z"⟩, 22) := ⟨⟨by decide +kernel, by decide +kernel⟩, List.mem_of_getElem? (i := 701) (by decide +kernel), List.mem_of_getElem? (i := 786) (by decide +kernel), List.mem_of_getElem? (i := 787) (by decide +kernel)⟩
theorem lw_p19 : lw_okq (⟨"TrellistagModel", "takes", "()I"⟩, 22) := ⟨⟨by decide +kernel, by decide +kernel⟩, List.mem_of_getElem? (i := 701) (by decide +kernel), List.mem_of_getElem? (i := 797) (by decide +kernel), List.mem_of_getElem? (i := 798) (by decide +kernel)⟩
theorem lw_p20 : lw_okq (⟨"TrellistagModel", "isPlace", "(I)Z"⟩, 22) := ⟨⟨by decide +kernel, by decide +kernel⟩, List.mem_of_getElem? (i := 701) (by decide +kernel), List.mem_of_getElem? (i := 821) (by decide +kernel), List.mem_of_getElem? (i := 822) (by decide +kernel)⟩
theorem lw_p21 : lw_okq (⟨"TrellistagModel", "weightFor", "(II)I"⟩, 22) := ⟨⟨by decide +kernel, by decide +kernel⟩, List.mem_of_getElem? (i := 701) (by decide +kernel), List.mem_of_getElem? (i := 829) (by decide +kernel), List.mem_of_getElem? (i := 830) (by decide +kernel)⟩
theorem lw_p22 : lw_okq (⟨"TrellistagModel", "often", "(III)I"⟩, 22) := ⟨⟨by decide +kernel, by decide +kernel⟩, List.mem_of_getElem? (i := 701) (by decide +kernel), List.mem_of_getElem? (i := 834) (by decide +kernel), List.mem_of_getElem? (i := 835) (by decide +kernel)⟩
theorem lw_p23 : lw_okq (⟨"TrellistagModel", "weightOf", "(II)I"⟩, 22) := ⟨⟨by decide +kernel, by decide +kernel⟩, List.mem_of_getElem? (i := 701) (by decide +kernel), List.mem_of_getElem? (i := 846) (by decide +kernel), List.mem_of_getElem? (i := 847) (by decide +kernel)⟩
theorem lw_p24 : lw_okq (⟨"TrellistagModel", "onPath", "(II)I"⟩, 22) := ⟨⟨by decide +kernel, by decide +kernel⟩, List.mem_of_getElem? (i := 701) (by decide +kernel), List.mem_of_getElem? (i := 854) (by decide +kernel), List.mem_of_getElem? (i := 855) (by decide +kernel)⟩
theorem lw_p25 : lw_okq (⟨"TrellistagModel", "goes", "(II)V"⟩, 22) := ⟨⟨by decide +kernel, by decide +kernel⟩, List.mem_of_getElem? (i := 701) (by decide +kernel), List.mem_of_getElem? (i := 861) (by decide +kernel), List.mem_of_getElem? (i := 862) (by decide +kernel)⟩
theorem lw_p26 : lw_okq (⟨"TrellistagModel", "lays", "()V"⟩, 22) := ⟨⟨by decide +kernel, by decide +kernel⟩, List.mem_of_getElem? (i := 701) (by decide +kernel), List.mem_of_getElem? (i := 865) (by decide +kernel), List.mem_of_getElem? (i := 866) (by decide +kernel)⟩
theorem lw_p27 : lw_okq (⟨"TrellistagModel", "paths", "()I"⟩, 22) := ⟨⟨by decide +kernel, by decide +kernel⟩, List.mem_of_getElem? (i := 701) (by decide +kernel), List.mem_of_getElem? (i := 869) (by decide +kernel), List.mem_of_getElem? (i := 870) (by decide +kernel)⟩
theorem lw_p28 : lw_okq (⟨"TrellistagModel", "weightOfPath", "(I)J"⟩, 22) := ⟨⟨by decide +kernel, by decide +kernel⟩, List.mem_of_getElem? (i := 701) (by decide +kernel), List.mem_of_getElem? (i := 873) (by decide +kernel), List.mem_of_getElem? (i := 874) (by decide +kernel)⟩
theorem lw_p29 : lw_okq (⟨"TrellistagModel", "tagAt", "(II)I"⟩, 22) := ⟨⟨by decide +kernel, by decide +kernel⟩, List.mem_of_getElem? (i := 701) (by decide +kernel), List.mem_of_getElem? (i := 877) (by decide +kernel), List.mem_of_getElem? (i := 878) (by decide +kernel)⟩
theorem lw_p30 : lw_okq (⟨"TrellistagModel", "weightOfRank", "(I)J"⟩, 22) := ⟨⟨by decide +kernel, by decide +kernel⟩, List.mem_of_getElem? (i := 701) (by decide +kernel), List.mem_of_getElem? (i := 889) (by decide +kernel), List.mem_of_getElem? (i := 890) (by decide +kernel)⟩
theorem lw_p31 : lw_okq (⟨"TrellistagModel", "shareOf", "(II)I"⟩, 22) := ⟨⟨by decide +kernel, by decide +kernel⟩, List.mem_of_getElem? (i := 701) (by decide +kernel), List.mem_of_getElem? (i := 903) (by decide +kernel), List.mem_of_getElem? (i := 904) (by decide +kernel)⟩
def lw_privs_2 : List (MethodName × Nat) := [(⟨"Trellistag$Trellis", "sumAhead", "(II)J"⟩, 4), (⟨"Trellistag$Trellis", "sumBehind", "(II)J"⟩, 4), (⟨"TrellistagModel", "holds", "(I)Z"⟩, 22), (⟨"TrellistagModel", "takes", "()I"⟩, 22), (⟨"TrellistagModel", "isPlace", "(I)Z"⟩, 22), (⟨"TrellistagModel", "weightFor", "(II)I"⟩, 22), (⟨"TrellistagModel", "often", "(III)I"⟩, 22), (⟨"TrellistagModel", "weightOf", "(II)I"⟩, 22), (⟨"TrellistagModel", "onPath", "(II)I"⟩, 22), (⟨"TrellistagModel", "goes", "(II)V"⟩, 22), (⟨"TrellistagModel", "lays", "()V"⟩, 22), (⟨"TrellistagModel", "paths", "()I"⟩, 22), (⟨"TrellistagModel", "weightOfPath", "(I)J"⟩, 22), (⟨"TrellistagModel", "tagAt", "(II)I"⟩, 22), (⟨"TrellistagModel", "weightOfRank", "(I)J"⟩, 22), (⟨"TrellistagModel", "shareOf", "(II)I"⟩, 22)]
theorem lw_r2 : ∀ q ∈ lw_privs_2, lw_okq q := List.forall_mem_cons.mpr ⟨lw_p16, List.forall_mem_cons.mpr ⟨lw_p17, List.forall_mem_cons.mpr ⟨lw_p18, List.forall_mem_cons.mpr ⟨lw_p19, List.forall_mem_cons.mpr ⟨lw_p20, List.forall_mem_cons.mpr ⟨lw_p21, List.forall_mem_cons.mpr ⟨lw_p22, List.forall_mem_cons.mpr ⟨lw_p23, List.forall_mem_cons.mpr ⟨lw_p24, List.forall_mem_cons.mpr ⟨lw_p25, List.forall_mem_cons.mpr ⟨lw_p26, List.forall_mem_cons.mpr ⟨lw_p27, List.forall_mem_cons.mpr ⟨lw_p28, List.forall_mem_cons.mpr ⟨lw_p29, List.forall_mem_cons.mpr ⟨lw_p30, List.forall_mem_cons.mpr ⟨lw_p31, fun _ h => absurd h List.not_mem_nil⟩⟩⟩⟩⟩⟩⟩⟩⟩⟩⟩⟩⟩⟩⟩⟩
def lw_privs : List (MethodName × Nat) := lw_privs_1 ++ (lw_privs_2)
def lw_tbl : List Cond := k2_sels lw_privs ++ tables_1
theorem lw_privs_ok : ∀ q ∈ lw_privs, lw_okq q := by
  show ∀ q ∈ lw_privs_1 ++ (lw_privs_2), lw_okq q
  exact List.forall_mem_append.mpr ⟨lw_r1, lw_r2⟩
end
section
/-! ===== BEGIN words of one list among another's, by their places ===== -/
theorem goodIn_r {big : List Cond} (ws : List Cond) (ps : List Nat) (hp : ws = ps.filterMap (fun i => big[i]?)) (h : ws.all goodWord = true) : GoodIn big ws := by
  intro w hw
  have h1 := List.all_eq_true.mp h w hw
  rw [hp] at hw
  obtain ⟨i, -, hi⟩ := List.mem_filterMap.mp hw
  have hm : w ∈ big := by first | exact List.mem_of_getElem? hi | exact List.getElem?_mem hi
  exact ⟨hm, good_of_word h1⟩
theorem goodIn_app {big a b : List Cond} (ha : GoodIn big a) (hb : GoodIn big b) : GoodIn big (a ++ b) := fun w h => (List.mem_append.mp h).elim (ha w) (hb w)
theorem goodIn_ca {big a b : List Cond} {c : Cond} (ha : GoodIn big (c :: a)) (hb : GoodIn big b) : GoodIn big (c :: (a ++ b)) := fun w h => (List.mem_cons.mp h).elim (fun e => ha w (List.mem_cons.mpr (Or.inl e))) (fun h => (List.mem_append.mp h).elim (fun h => ha w (List.mem_cons.mpr (Or.inr h))) (hb w))
theorem goodIn_sub {big ws : List Cond} (hm : ∀ w ∈ ws, w ∈ big) (h : ws.all goodWord = true) : GoodIn big ws := fun w hw => ⟨hm w hw, good_of_word (List.all_eq_true.mp h w hw)⟩
/-! ===== END ===== -/
/-! ===== BEGIN exceptions that leave a method, and their catching by the caller (launches without stack traces) ===== -/
section VXA
/-! The laws vx_back, vx_callV, vx_callS, vx_callSW, vx_throw0, vx_throwS follow proofs of the library, with one case more: JvmDerived/Free/Laws.lean (Back.of_free), Shelf42/LK1.lean (callV, callS), Shelf/KitTraced.lean (throwNew0V, throwNewS). -/
/-- where a method has thrown q: the class by its name, the cell, what was written, the world -/
def vx_T (XC : String → State → State → Prop) (st : State) (q : Addr) (t : State) (mc ms : Nat) (free : Addr → Prop) : Prop :=
  ∃ (E : String) (ce : Cell) (L : List Loc), XC E st t ∧ t.heap[q]? = some ce ∧ ce.vm = .none ∧ st.vm.findClass E = some ce.cls ∧ st.WarmedH t.vm ∧ st.sameButNew ({ t with vm := st.vm } : State) L mc ms ∧ ∀ z ∈ L, free z.base
def vx_Q (Qc : Array Value → State → Outcome → State → Prop) (XC : String → State → State → Prop) (mc ms : Nat) (free : Addr → Prop) : Array Value → State → Outcome → State → Prop := fun a st o t =>
  (Qc a st o t ∧ ∃ L, FrameEnd st o t L mc ms ∧ ∀ q ∈ L, free q.base) ∨ ∃ q, o = .threw q ∧ vx_T XC st q t mc ms free
/-- a callee that returns or throws -/
def vx_Met (l : Launch) (y : MethodName) (ws : List Cond) (rm : Room) (Pc : Array Value → State → Prop) (Qc : Array Value → State → Outcome → State → Prop) (XC : String → State → State → Prop) (mc ms : Nat) (free : Addr → Prop) : Prop :=
  MetFree l y (headSpec ws rm) Pc (fun _ _ _ _ _ => True) (vx_Q Qc XC mc ms free)
def vx_Post (XC : String → State → State → Prop) (mc ms : Nat) (free : Addr → Prop) : Pt → Array Value → Addr → Pt → Prop := fun A a q B =>
  ∃ (g : JFrame) (mk : MethodId) (t : State) (L : List Loc) (E : String) (ce : Cell), B.U.heap = t.heap ∧ B.U.vm = t.vm ∧ XC E (A.U.calling g mk a) t ∧ t.heap[q]? = some ce ∧ ce.vm = .none ∧ A.U.vm.findClass E = some ce.cls ∧ B.locs = A.locs ++ L ∧ (∀ z ∈ L, free z.base) ∧ B.cells = A.cells + mc ∧ B.slots = A.slots + ms
def vx_Back (l : Launch) (R : Room) (p : Program) (e : Env) (below : List Frame) (s : State) (sargs : Array Value) (y : MethodName) (len W9 : Nat)
    (Pre : Pt → Array Value → Prop) (Post : Pt → Array Value → Option Value → Pt → Prop) (PostX : Pt → Array Value → Addr → Pt → Prop) : Prop :=
  ∀ (m : MethodId) (meth : Method) (c : Code) (A : Pt) (g : JFrame) (ig : Instr) (mk : MethodId) (a : Array Value),
    Stand p l e R s m sargs below meth c A.U A.locs A.cells A.slots → g.method = m → g.locals.size = c.maxLocals → decode c.code g.pc = .ok (ig, len) →
    2 * g.monitorRoom + (g.stack.map fun v => v.category).sum ≤ W9 → A.U.methodNamed? y = some mk → Pre A a →
    (∃ (v : Option Value) (B : Pt), Stand p l e R s m sargs below meth c B.U B.locs B.cells B.slots ∧ Post A a v B ∧
      Steps p.tables e below (doInvoke e (A.U.setTop g) [] mk a).1 (B.U.setTop { g with pc := g.pc + len, stack := v.toList ++ g.stack })) ∨
    (∃ (q : Addr) (B : Pt), Stand p l e R s m sargs below meth c B.U B.locs B.cells B.slots ∧ PostX A a q B ∧
      Steps p.tables e below (doInvoke e (A.U.setTop g) [] mk a).1 ((B.U.setTop g).pushFrame (.throwing q)))
section Payer
variable {l : Launch} {R : Room} {p : Program} {e : Env} {below : List Frame} {s : State} {sargs : Array Value} {y : MethodName} {len W9 : Nat}
theorem vx_back {ws : List Cond} {rm : Room} {Pc : Array Value → State → Prop} {Qc : Array Value → State → Outcome → State → Prop} {XC : String → State → State → Prop} {mc ms : Nat} {free : Addr → Prop} {bytes : ByteArray} {maxL : Nat} {ret : Option FieldType}
    (hM : vx_Met l y ws rm Pc Qc XC mc ms free) (hblind : FrameBlind Pc) (hrc : rm.cells = mc) (hrs : rm.slots = ms)
    (hframes : rm.frames + 1 ≤ R.frames) (hlocals : W9 + (maxL + 11) + rm.locals ≤ R.locals)
    (hws : ∀ w ∈ ws, ∀ a' U, s.WarmedH U.vm → w.before a' U = true) (hcode : Cond.code y bytes maxL ret ∈ ws) (hinit : ∀ a' U, s.WarmedH U.vm → (Cond.initialized y.cls).before a' U = true) :
    vx_Back l R p e below s sargs y len W9 (PreOf R mc ms Pc) (PostOf Qc mc ms free) (vx_Post XC mc ms free) := by
  intro m meth c A g ig mk a X hg hsize hdg hW hn hp
  have h1 : (headSpec ws rm).pre.before a A.U = true := atoms_intro fun w hw => hws w hw _ _ X.warmed
  have h2 : (Cond.code y bytes maxL ret).before a A.U = true := hws _ hcode _ _ X.warmed
  have h3 : (Cond.initialized y.cls).before a A.U = true := hinit _ _ X.warmed
  have h4 : A.cells + (headSpec ws rm).room.cells ≤ R.cells := by rw [show (headSpec ws rm).room.cells = mc from hrc]; exact hp.1
  have h5 : A.slots + (headSpec ws rm).room.slots ≤ R.slots := by rw [show (headSpec ws rm).room.slots = ms from hrs]; exact hp.2.1
  have hPc : Pc a (A.U.calling g mk a) := hblind _ _ _ _ hp.2.2
  obtain ⟨U, Ls, c0, s0⟩ := A
  dsimp only [Pt.U, Pt.locs, Pt.cells, Pt.slots] at h1 h2 h3 h4 h5 X hn hPc ⊢
  obtain ⟨methY, cY, hmY, hcY, -, hlY, -, -, -, -⟩ := Cond.code_spec hn h2
  obtain ⟨kY, hkY, -⟩ := className_of_methodNamed hn
  have hinitY : kY.init = .initialized := Cond.initialized_spec (findClass_of_methodNamed hn) hkY h3
  have h : At U g.method c below := by rw [hg]; exact X.here
  have hlocals9 : W9 + (maxL + 11) + (headSpec ws rm).room.locals ≤ R.locals := hlocals
  have happ : (headSpec ws rm).appliesLoose y e.platform (U.calling g mk a) = true :=
    Spec.appliesLoose_calling (g := g) h hdg hn hkY hinitY
      (X.room_calling (g := g) (R' := (headSpec ws rm).room) hsize hmY hcY hframes (by rw [hlY]; omega) h4 h5) h1
  obtain ⟨mid, hmid⟩ := h.above
  have hfr : (U.setTop g).frames = (.java g :: mid) ++ below := by rw [State.frames_setTop' g h.top, hmid]; rfl
  obtain ⟨o, s₂, hsteps, -, hend, hq⟩ := Steps.callFree hM p X.admits X.cas X.clock (acts := []) hfr happ hPc trivial
  have hq' : vx_Q Qc XC mc ms free a (U.calling g mk a) o s₂ := hq
  rw [State.frames_setTop' g h.top] at hend
  obtain ⟨g₀, hg0⟩ := Option.isSome_iff_exists.mp h.top
  obtain ⟨r, hr⟩ := State.topJava?_eq_some.mp hg0
  have hr' : (({ U with heap := s₂.heap, slotsUsed := s₂.slotsUsed } : State).setVm s₂.vm).frames = .java g₀ :: r := hr
  rcases hq' with ⟨hqc, L, hfe, hL⟩ | ⟨q, rfl, E, ce, L, hx, hce, hcv, hcl, hW₂, hsm, hL⟩
  · obtain ⟨⟨v, rfl⟩, hW₂, e2, q2, q3, q4, q5, q6⟩ := id hfe
    have e3 : s₂ = ({ (U.calling g mk a).setFrames s₂.frames with heap := s₂.heap, slotsUsed := s₂.slotsUsed } : State).setVm s₂.vm := by
      have : s₂ = ({ s₂ with vm := (U.calling g mk a).vm } : State).setVm s₂.vm := rfl
      rw [e2] at this
      exact this
    obtain ⟨c₂, i₂, len₂, hc₂, hd₂, hf₂⟩ := hend
    have hW' : U.WarmedH s₂.vm := hW₂
    have hcc : c₂ = c := by
      have h1 : s₂.code? g.method = U.code? g.method := by
        rw [State.code?_eq, State.code?_eq, hW'.alike.method?]
      exact Option.some.inj (hc₂.symm.trans (h1.trans h.code))
    subst hcc
    have hlen : len₂ = len := by rw [hdg] at hd₂; cases hd₂; rfl
    subst hlen
    have hs₂ : s₂ = (({ U with heap := s₂.heap, slotsUsed := s₂.slotsUsed } : State).setVm s₂.vm).setTop { g with pc := g.pc + len₂, stack := v.toList ++ g.stack } := by
      refine e3.trans ?_
      rw [hf₂, State.calling_eq h.top, State.setFrames_setFrames, State.setTop_of_frames _ hr', hr]
      rfl
    have hsame : U.sameButNew ({ U with heap := s₂.heap, slotsUsed := s₂.slotsUsed } : State) L mc ms := by
      refine ⟨?_, q2, q3, q4, q5, q6⟩
      obtain ⟨t, ht, -⟩ := State.frames_cons hr
      show ({ U with heap := s₂.heap, slotsUsed := s₂.slotsUsed } : State) = { U.setFrames U.frames with heap := s₂.heap, slotsUsed := s₂.slotsUsed }
      rw [State.setFrames_self ht]
    subst hg
    refine Or.inl ⟨v, ⟨(({ U with heap := s₂.heap, slotsUsed := s₂.slotsUsed } : State).setVm s₂.vm), Ls ++ L, c0 + mc, s0 + ms⟩,
      ⟨X.admits, X.cas, X.clock, X.frames, X.room, X.hears, X.method, X.code, (X.here.setHeapUsed s₂.heap s₂.slotsUsed).setVm hW'.alike, X.tail, State.WarmedH.trans X.warmed hW', X.limits, X.bytes, X.same.trans (hsame.setVm s.vm)⟩,
      ⟨g, mk, s₂, L, rfl, rfl, hqc, rfl, hL, rfl, rfl⟩, ?_⟩
    show Steps p.tables e below _ ((({ U with heap := s₂.heap, slotsUsed := s₂.slotsUsed } : State).setVm s₂.vm).setTop { g with pc := g.pc + len₂, stack := v.toList ++ g.stack })
    rw [← hs₂]
    exact hsteps
  · obtain ⟨e2, q2, q3, q4, q5, q6⟩ := id hsm
    have e3 : s₂ = ({ (U.calling g mk a).setFrames s₂.frames with heap := s₂.heap, slotsUsed := s₂.slotsUsed } : State).setVm s₂.vm := by
      have : s₂ = ({ s₂ with vm := (U.calling g mk a).vm } : State).setVm s₂.vm := rfl
      rw [e2] at this
      exact this
    have hf₂ : s₂.frames = .throwing q :: .java g :: U.frames.tail := hend
    have hW' : U.WarmedH s₂.vm := hW₂
    have hs₂ : s₂ = ((({ U with heap := s₂.heap, slotsUsed := s₂.slotsUsed } : State).setVm s₂.vm).setTop g).pushFrame (.throwing q) := by
      refine e3.trans ?_
      rw [hf₂, State.calling_eq h.top, State.setFrames_setFrames, State.pushFrame, State.frames_setTop _ hr', State.setTop_of_frames _ hr', State.setFrames_setFrames, hr]
      rfl
    have hsame : U.sameButNew ({ U with heap := s₂.heap, slotsUsed := s₂.slotsUsed } : State) L mc ms := by
      refine ⟨?_, q2, q3, q4, q5, q6⟩
      obtain ⟨t, ht, -⟩ := State.frames_cons hr
      show ({ U with heap := s₂.heap, slotsUsed := s₂.slotsUsed } : State) = { U.setFrames U.frames with heap := s₂.heap, slotsUsed := s₂.slotsUsed }
      rw [State.setFrames_self ht]
    subst hg
    refine Or.inr ⟨q, ⟨(({ U with heap := s₂.heap, slotsUsed := s₂.slotsUsed } : State).setVm s₂.vm), Ls ++ L, c0 + mc, s0 + ms⟩,
      ⟨X.admits, X.cas, X.clock, X.frames, X.room, X.hears, X.method, X.code, (X.here.setHeapUsed s₂.heap s₂.slotsUsed).setVm hW'.alike, X.tail, State.WarmedH.trans X.warmed hW', X.limits, X.bytes, X.same.trans (hsame.setVm s.vm)⟩,
      ⟨g, mk, s₂, L, E, ce, rfl, rfl, hx, hce, hcv, hcl, rfl, hL, rfl, rfl⟩, ?_⟩
    show Steps p.tables e below _ (((({ U with heap := s₂.heap, slotsUsed := s₂.slotsUsed } : State).setVm s₂.vm).setTop g).pushFrame (.throwing q))
    rw [← hs₂]
    exact hsteps
end Payer
section Calls
variable {p : Program} {l : Launch} {e : Env} {R : Room} {s : State} {m : MethodId} {args : Array Value} {below : List Frame} {meth : Method} {c : Code} {T : State} {locs : List Loc} {cells slots : Nat}
theorem vx_callV (X : Stand p l e R s m args below meth c T locs cells slots) (hexec : p.tables.exec = Jvm.exec) {own C : String} {index : Nat} {y : MethodName} {bytes : ByteArray} {maxL : Nat} {ret : Option FieldType}
    (hown : s.vm.findClass own = some m.cls) (hlink : (Cond.methodLink own index y).before args s = true) (hinst : (Cond.instanceMethod y).before args s = true) (hsel : (Cond.selects C y y).before args s = true)
    (hcode : (Cond.code y bytes maxL ret).before args s = true) (hy : y.cls ≠ "java/lang/invoke/MethodHandle" ∧ y.cls ≠ "java/lang/invoke/VarHandle")
    {W9 : Nat} {Pre : Pt → Array Value → Prop} {Post : Pt → Array Value → Option Value → Pt → Prop} {PostX : Pt → Array Value → Addr → Pt → Prop} (hK : vx_Back l R p e below s args y 3 W9 Pre Post PostX)
    {b : Addr} {cellB : Cell} (hcell : T.heap[b]? = some cellB) (hobj : cellB.vm.isStatics = false) (hcls : s.vm.findClass C = some cellB.cls)
    {g : JFrame} (hg : g.method = m) (hsize : g.locals.size = c.maxLocals) {argsL rest : List Value} (hlen : ∀ sig, parseMethodDescriptor y.desc = some sig → argsL.length = sig.parameters.length)
    (hstack : g.stack = argsL.reverse ++ .ref b :: rest) (hW : 2 * g.monitorRoom + (rest.map fun v => v.category).sum ≤ W9) (hdg : decode c.code g.pc = .ok (.invokevirtual index, 3))
    (hpre : ∀ vm₁, s.WarmedH vm₁ → Pre ⟨T.setVm vm₁, locs, cells, slots⟩ (Value.ref b :: argsL).toArray) :
    (∃ (v : Option Value) (vm₁ : Vm) (B : Pt), s.WarmedH vm₁ ∧ Stand p l e R s m args below meth c B.U B.locs B.cells B.slots ∧ Post ⟨T.setVm vm₁, locs, cells, slots⟩ (Value.ref b :: argsL).toArray v B ∧
      ∀ target, Steps p.tables e below (B.U.setTop { g with pc := g.pc + 3, stack := v.toList ++ rest }) target → Steps p.tables e below (T.setTop g) target) ∨
    (∃ (q : Addr) (vm₁ : Vm) (B : Pt), s.WarmedH vm₁ ∧ Stand p l e R s m args below meth c B.U B.locs B.cells B.slots ∧ PostX ⟨T.setVm vm₁, locs, cells, slots⟩ (Value.ref b :: argsL).toArray q B ∧
      Steps p.tables e below (T.setTop g) ((B.U.setTop { g with stack := rest }).pushFrame (.throwing q))) := by
  obtain ⟨mk, methM, hnamed, hmethM, hstM, habM⟩ := Cond.instanceMethod_spec hinst
  obtain ⟨methM', cM, hmethM', -, -, -, -, -, -, hsigM⟩ := Cond.code_spec hnamed hcode
  cases hmethM.symm.trans hmethM'
  obtain ⟨c2, r2, m2, q1, q2, q3, q4, kP, hkP, hkPi⟩ := Cond.selects_spec hsel
  cases hcls.symm.trans q1
  cases (State.methodFound?_of_named hnamed hy).symm.trans q2
  cases hnamed.symm.trans q3
  have hselP : selectMethod e.platform s.vm cellB.cls mk = .method mk := by rw [Launch.admits_selectMethod X.admits]; exact q4
  obtain ⟨vm₁, X₁, hstep₁⟩ := X.invokevirtual hexec hown hlink hnamed hmethM hstM hkP hkPi hy (a := b) (cell := cellB) hcell
    (fun z h => by rw [h] at hobj; cases hobj) hselP hmethM habM hkP hkPi (g := g) hg (argsL := argsL) (rest := rest) (hlen _ hsigM) hstack hdg
  rcases hK m meth c ⟨T.setVm vm₁, locs, cells, slots⟩ { g with stack := rest } (.invokevirtual index) mk (Value.ref b :: argsL).toArray X₁ hg hsize hdg hW (X₁.named hnamed) (hpre vm₁ X₁.warmed) with ⟨v, B, X', hpost, hsteps⟩ | ⟨q, B, X', hpost, hsteps⟩
  · exact Or.inl ⟨v, vm₁, B, X₁.warmed, X', hpost, fun target h => hstep₁ _ fun acts => by rw [doInvoke_state]; exact hsteps.trans h⟩
  · exact Or.inr ⟨q, vm₁, B, X₁.warmed, X', hpost, hstep₁ _ fun acts => by rw [doInvoke_state]; exact hsteps⟩
theorem vx_callS (X : Stand p l e R s m args below meth c T locs cells slots) (hexec : p.tables.exec = Jvm.exec) {own : String} {index : Nat} {y : MethodName} {bytes : ByteArray} {maxL : Nat} {ret : Option FieldType}
    (hown : s.vm.findClass own = some m.cls) (hlink : (Cond.methodLink own index y).before args s = true) (hstat : (Cond.static y).before args s = true) (hinit : (Cond.initialized y.cls).before args s = true)
    (hcode : (Cond.code y bytes maxL ret).before args s = true) (hy : y.cls ≠ "java/lang/invoke/MethodHandle" ∧ y.cls ≠ "java/lang/invoke/VarHandle")
    {W9 : Nat} {Pre : Pt → Array Value → Prop} {Post : Pt → Array Value → Option Value → Pt → Prop} {PostX : Pt → Array Value → Addr → Pt → Prop} (hK : vx_Back l R p e below s args y 3 W9 Pre Post PostX)
    {g : JFrame} (hg : g.method = m) (hsize : g.locals.size = c.maxLocals) {argsL rest : List Value} (hlen : ∀ sig, parseMethodDescriptor y.desc = some sig → argsL.length = sig.parameters.length)
    (hstack : g.stack = argsL.reverse ++ rest) (hW : 2 * g.monitorRoom + (rest.map fun v => v.category).sum ≤ W9) (hdg : decode c.code g.pc = .ok (.invokestatic index, 3))
    (hpre : ∀ vm₁, s.WarmedH vm₁ → Pre ⟨T.setVm vm₁, locs, cells, slots⟩ argsL.toArray) :
    (∃ (v : Option Value) (vm₁ : Vm) (B : Pt), s.WarmedH vm₁ ∧ Stand p l e R s m args below meth c B.U B.locs B.cells B.slots ∧ Post ⟨T.setVm vm₁, locs, cells, slots⟩ argsL.toArray v B ∧
      ∀ target, Steps p.tables e below (B.U.setTop { g with pc := g.pc + 3, stack := v.toList ++ rest }) target → Steps p.tables e below (T.setTop g) target) ∨
    (∃ (q : Addr) (vm₁ : Vm) (B : Pt), s.WarmedH vm₁ ∧ Stand p l e R s m args below meth c B.U B.locs B.cells B.slots ∧ PostX ⟨T.setVm vm₁, locs, cells, slots⟩ argsL.toArray q B ∧
      Steps p.tables e below (T.setTop g) ((B.U.setTop { g with stack := rest }).pushFrame (.throwing q))) := by
  obtain ⟨mk, hnamed⟩ := Cond.code_named hcode
  obtain ⟨methM, cM, hmethM, -, -, -, -, -, -, hsigM⟩ := Cond.code_spec hnamed hcode
  have hstatic : methM.isStatic = true := Cond.static_spec hnamed hmethM hstat
  obtain ⟨kP, hkP, -⟩ := className_of_methodNamed hnamed
  have hinitP : kP.init = .initialized := Cond.initialized_spec (findClass_of_methodNamed hnamed) hkP hinit
  obtain ⟨vm₁, X₁, hstep₁⟩ := X.invokestatic hexec hown hlink hnamed hmethM hstatic hkP hinitP hy (g := g) hg (argsL := argsL) (rest := rest) (hlen _ hsigM) hstack hdg
  rcases hK m meth c ⟨T.setVm vm₁, locs, cells, slots⟩ { g with stack := rest } (.invokestatic index) mk argsL.toArray X₁ hg hsize hdg hW (X₁.named hnamed) (hpre vm₁ X₁.warmed) with ⟨v, B, X', hpost, hsteps⟩ | ⟨q, B, X', hpost, hsteps⟩
  · exact Or.inl ⟨v, vm₁, B, X₁.warmed, X', hpost, fun target h => hstep₁ _ fun acts => by rw [doInvoke_state]; exact hsteps.trans h⟩
  · exact Or.inr ⟨q, vm₁, B, X₁.warmed, X', hpost, hstep₁ _ fun acts => by rw [doInvoke_state]; exact hsteps⟩
end Calls
theorem vx_cls {s : State} {T : State} {vm₁ : Vm} {E : String} {k : ClassId} (hW : s.WarmedH vm₁) (h : (T.setVm vm₁).vm.findClass E = some k) : s.vm.findClass E = some k := by
  have h1 : vm₁.findClass E = some k := h
  rw [hW.alike.findClass] at h1
  exact h1
/-- the method's frame g, with q thrown over it -/
def vx_W (p : Program) (l : Launch) (e : Env) (R : Room) (s : State) (m : MethodId) (args : Array Value) (below : List Frame) (meth : Method) (c : Code) (H : Heap) (locs : List Loc) (cells slots : Nat) (Q : State → Prop) (g : JFrame) (q : Addr) : Prop :=
  ∀ T : State, T.heap = H → Stand p l e R s m args below meth c T locs cells slots → ∃ t, Steps p.tables e below ((T.setTop g).pushFrame (.throwing q)) t ∧ Q t
def vx_Run (p : Program) (l : Launch) (e : Env) (R : Room) (s : State) (m : MethodId) (args : Array Value) (below : List Frame) (meth : Method) (c : Code) (H : Heap) (locs : List Loc) (cells slots mc ms : Nat) (g : JFrame) (rest : List Value) (Qa : State → Outcome → State → Prop) (XC : String → State → State → Prop) (free : Addr → Prop) : Prop :=
  ∀ T : State, T.heap = H → Stand p l e R s m args below meth c T locs cells slots →
    (∃ (v : Option Value) (st₀ t T' : State) (L : List Loc), st₀.heap = H ∧ Stand p l e R s m args below meth c T' (locs ++ L) (cells + mc) (slots + ms) ∧ (∀ q ∈ L, free q.base) ∧ T'.heap = t.heap ∧ T'.vm = t.vm ∧ Qa st₀ (.returned v) t ∧
      Goes p e below T g T' { g with pc := g.pc + 3, stack := v.toList ++ rest }) ∨
    (∃ (q : Addr) (st₀ t T' : State) (L : List Loc) (E : String) (ce : Cell), st₀.heap = H ∧ Stand p l e R s m args below meth c T' (locs ++ L) (cells + mc) (slots + ms) ∧ (∀ z ∈ L, free z.base) ∧ T'.heap = t.heap ∧ T'.vm = t.vm ∧ XC E st₀ t ∧ t.heap[q]? = some ce ∧ ce.vm = .none ∧ s.vm.findClass E = some ce.cls ∧
      Steps p.tables e below (T.setTop g) ((T'.setTop { g with stack := rest }).pushFrame (.throwing q)))
def vx_X {S : Type} (px : S → Prop) (B : String → S → State → Prop) (A : Nat → Prop) : String → State → State → Prop := fun E st t => ∃ u : S, px u ∧ B E u t ∧ va_F A st t
section Runs
variable {p : Program} {l : Launch} {e : Env} {R : Room} {s : State} {m : MethodId} {args : Array Value} {below : List Frame} {meth : Method} {c : Code} {H : Heap} {locs : List Loc} {cells slots : Nat}
variable {y : MethodName} {bytes cc : ByteArray} {maxL nL mc ms n index : Nat} {ret : Option FieldType} {ws : List Cond} {rm : Room} {Pc : Array Value → State → Prop} {Qc : Array Value → State → Outcome → State → Prop} {XC : String → State → State → Prop} {free : Addr → Prop} {Ts : List Cond} {own C : String} {b : Addr} {As rest : List Value} {g : JFrame}
theorem vx_callBack (cb : CallB R s args own index y bytes maxL ret ws rm mc ms n) (hM : vx_Met l y ws rm Pc Qc XC mc ms free) (hbl : FrameBlind Pc) : vx_Back l R p e below s args y 3 8 (PreOf R mc ms Pc) (PostOf Qc mc ms free) (vx_Post XC mc ms free) := by
  obtain ⟨hrc, hrs, hfr, hlo, hws, hcw, -, hini, -⟩ := cb
  exact vx_back (bytes := bytes) (maxL := maxL) (ret := ret) hM hbl hrc hrs hfr hlo hws hcw (fun a' U hW => word_at hW (Or.inl (by first | rfl | simp [Cond.onTables, Cond.keeps, Cond.steady])) hini)
theorem vx_runV (S : CallFix p m c cc nL s args Ts own) (hM : vx_Met l y ws rm Pc Qc XC mc ms free) (cw : CallW R s args own C index y bytes maxL ret ws rm mc ms n) (hp : PreV s H C b Pc As)
    (hg : g.method = m) (hn : As.length = n) (hsize : g.locals.size = nL) (hstack : g.stack = As.reverse ++ .ref b :: rest) (hW : 2 * g.monitorRoom + (rest.map fun v => v.category).sum ≤ 8) (hdg : decode cc g.pc = .ok (.invokevirtual index, 3)) (hf : cells + mc ≤ R.cells ∧ slots + ms ≤ R.slots) :
    vx_Run p l e R s m args below meth c H locs cells slots mc ms g rest (Qc (Value.ref b :: As).toArray) XC free := by
  have hK : vx_Back l R p e below s args y 3 8 (PreOf R mc ms Pc) (PostOf Qc mc ms free) (vx_Post XC mc ms free) := vx_callBack cw.1 hM hp.1
  obtain ⟨⟨-, -, -, -, -, -, hcode, -, hy, hlen, hl⟩, hin, hse⟩ := cw
  obtain ⟨hx, hb, hml, ho, -⟩ := S
  obtain ⟨-, ⟨cellB, hcB, hoB, hclB⟩, hPc⟩ := hp
  intro T hT X
  rcases vx_callV X hx (C := C) (bytes := bytes) (maxL := maxL) (ret := ret) ho hl hin hse hcode hy hK (by rw [hT]; exact hcB) hoB hclB hg (hsize.trans hml.symm) (argsL := As) (rest := rest) (fun sig h => hn.trans (hlen sig h)) hstack hW (by rw [hb]; exact hdg)
    (fun vm₁ hW₁ => ⟨hf.1, hf.2, hPc (T.setVm vm₁) hT hW₁⟩) with ⟨v, vm₁, ⟨U', l2, c2, s2⟩, hW₁, X', ⟨g', mk, t, L, e1, e2, hq, h1, hL, h2, h3⟩, st⟩ | ⟨q, vm₁, ⟨U', l2, c2, s2⟩, hW₁, X', ⟨g', mk, t, L, E, ce, e1, e2, hq, hce, hcv, hcl, h1, hL, h2, h3⟩, st⟩
  · dsimp only [Pt.U, Pt.locs, Pt.cells, Pt.slots] at X' e1 e2 h1 h2 h3 st
    subst h1; subst h2; subst h3
    exact Or.inl ⟨v, (T.setVm vm₁).calling g' mk (Value.ref b :: As).toArray, t, U', L, hT, X', hL, e1, e2, hq, st⟩
  · dsimp only [Pt.U, Pt.locs, Pt.cells, Pt.slots] at X' e1 e2 h1 h2 h3 st hcl
    subst h1; subst h2; subst h3
    exact Or.inr ⟨q, (T.setVm vm₁).calling g' mk (Value.ref b :: As).toArray, t, U', L, E, ce, hT, X', hL, e1, e2, hq, hce, hcv, vx_cls hW₁ hcl, st⟩
theorem vx_runS (S : CallFix p m c cc nL s args Ts own) (hM : vx_Met l y ws rm Pc Qc XC mc ms free) (cw : CallB R s args own index y bytes maxL ret ws rm mc ms n ∧ (Cond.static y).before args s = true) (hp : PreS s H Pc As)
    (hg : g.method = m) (hn : As.length = n) (hsize : g.locals.size = nL) (hstack : g.stack = As.reverse ++ rest) (hW : 2 * g.monitorRoom + (rest.map fun v => v.category).sum ≤ 8) (hdg : decode cc g.pc = .ok (.invokestatic index, 3)) (hf : cells + mc ≤ R.cells ∧ slots + ms ≤ R.slots) :
    vx_Run p l e R s m args below meth c H locs cells slots mc ms g rest (Qc As.toArray) XC free := by
  have hK : vx_Back l R p e below s args y 3 8 (PreOf R mc ms Pc) (PostOf Qc mc ms free) (vx_Post XC mc ms free) := vx_callBack cw.1 hM hp.1
  obtain ⟨⟨-, -, -, -, -, -, hcode, hini, hy, hlen, hl⟩, hstt⟩ := cw
  obtain ⟨hx, hb, hml, ho, -⟩ := S
  intro T hT X
  rcases vx_callS X hx (bytes := bytes) (maxL := maxL) (ret := ret) ho hl hstt hini hcode hy hK hg (hsize.trans hml.symm) (argsL := As) (rest := rest) (fun sig h => hn.trans (hlen sig h)) hstack hW (by rw [hb]; exact hdg)
    (fun vm₁ hW₁ => ⟨hf.1, hf.2, hp.2 (T.setVm vm₁) hT hW₁⟩) with ⟨v, vm₁, ⟨U', l2, c2, s2⟩, hW₁, X', ⟨g', mk, t, L, e1, e2, hq, h1, hL, h2, h3⟩, st⟩ | ⟨q, vm₁, ⟨U', l2, c2, s2⟩, hW₁, X', ⟨g', mk, t, L, E, ce, e1, e2, hq, hce, hcv, hcl, h1, hL, h2, h3⟩, st⟩
  · dsimp only [Pt.U, Pt.locs, Pt.cells, Pt.slots] at X' e1 e2 h1 h2 h3 st
    subst h1; subst h2; subst h3
    exact Or.inl ⟨v, (T.setVm vm₁).calling g' mk As.toArray, t, U', L, hT, X', hL, e1, e2, hq, st⟩
  · dsimp only [Pt.U, Pt.locs, Pt.cells, Pt.slots] at X' e1 e2 h1 h2 h3 st hcl
    subst h1; subst h2; subst h3
    exact Or.inr ⟨q, (T.setVm vm₁).calling g' mk As.toArray, t, U', L, E, ce, hT, X', hL, e1, e2, hq, hce, hcv, vx_cls hW₁ hcl, st⟩
end Runs
section Rows
variable {p : Program} {l : Launch} {e : Env} {R : Room} {s : State} {m : MethodId} {args : Array Value} {below : List Frame} {meth : Method} {c : Code} {H : Heap} {locs : List Loc} {cells slots : Nat} {Q : State → Prop}
variable {mc ms : Nat} {free : Addr → Prop} {A0 A1 : Nat → Prop} {H0 : Heap} {a : Array Value} {pc : Nat} {ls : Array Slot} {st0 rest : List Value}
theorem vx_keep {st₀ t T' : State} {L : List Loc} (h0 : st₀.heap = H) (e1 : T'.heap = t.heap) (hS : va_S A0 H0 H locs) (hA : ∀ q, q < H.size → A1 q → A0 q) (hf : ∀ q, free q → A0 q) (hL : ∀ q ∈ L, free q.base) (hF : va_F A1 st₀ t) :
    H.size ≤ T'.heap.size ∧ (∀ q : Nat, q < H.size → ¬ A1 q → T'.heap[q]? = H[q]?) ∧ va_S A0 H0 T'.heap (locs ++ L) := by
  obtain ⟨hz, hk⟩ := hF
  rw [h0] at hz hk
  exact ⟨by rw [e1]; exact hz, fun q h1 h2 => by rw [e1]; exact hk q h1 h2,
    ⟨Nat.le_trans hS.1 (by rw [e1]; exact hz), fun q h1 h2 => by rw [e1, hk q (Nat.lt_of_lt_of_le h1 hS.1) (fun z => h2 (hA q (Nat.lt_of_lt_of_le h1 hS.1) z))]; exact hS.2.1 q h1 h2, fun q hq => by
      rcases List.mem_append.mp hq with h | h
      · exact hS.2.2 q h
      · exact hf _ (hL q h)⟩⟩
theorem vx_calli {S SX : Type} {post : Int32 → S → Prop} {px : SX → Prop} {B : S → State → Prop} {BX : String → SX → State → Prop} {AX : Nat → Prop} (hr : vx_Run p l e R s m args below meth c H locs cells slots mc ms (F0 m pc ls st0) rest (va_Qi post B A1 a) (vx_X px BX AX) free) (hS : va_S A0 H0 H locs) (hA : ∀ q, q < H.size → A1 q → A0 q) (hf : ∀ q, free q → A0 q) (hAX : ∀ q, q < H.size → AX q → A0 q)
    (kx : ∀ (E : String) (ce : Cell) (q9 : Addr) (u : SX) (t : State) (H1 : Heap) (locs1 : List Loc), t.heap = H1 → s.vm.Alike t.vm → px u → BX E u t → H.size ≤ H1.size → (∀ q : Nat, q < H.size → ¬ AX q → H1[q]? = H[q]?) → va_S A0 H0 H1 locs1 → H1[q9]? = some ce → ce.vm = .none → s.vm.findClass E = some ce.cls → vx_W p l e R s m args below meth c H1 locs1 (cells + mc) (slots + ms) Q (F0 m pc ls rest) q9)
    (kk : ∀ (r : Int32) (u : S) (t : State) (H1 : Heap) (locs1 : List Loc), t.heap = H1 → s.vm.Alike t.vm → post r u → B u t → H.size ≤ H1.size → (∀ q : Nat, q < H.size → ¬ A1 q → H1[q]? = H[q]?) → va_S A0 H0 H1 locs1 → W p l e R s m args below meth c H1 locs1 (cells + mc) (slots + ms) Q (F0 m (pc + 3) ls (.int r :: rest))) : W p l e R s m args below meth c H locs cells slots Q (F0 m pc ls st0) := by
  intro T hT X
  rcases hr T hT X with ⟨v, st₀, t, T', L, h0, X', hL, e1, e2, ⟨⟨r, u, hv, hp, hb⟩, hF⟩, st⟩ | ⟨q, st₀, t, T', L, E, ce, h0, X', hL, e1, e2, ⟨u, hp, hb, hF⟩, hce, hcv, hcl, st⟩
  · cases hv
    obtain ⟨k1, k2, k3⟩ := vx_keep h0 e1 hS hA hf hL hF
    obtain ⟨t2, a1, b1⟩ := kk r u t T'.heap (locs ++ L) e1.symm (by rw [← e2]; exact X'.warmed.alike) hp hb k1 k2 k3 T' rfl X'
    exact ⟨t2, st t2 a1, b1⟩
  · obtain ⟨k1, k2, k3⟩ := vx_keep h0 e1 hS hAX hf hL hF
    obtain ⟨t2, a1, b1⟩ := kx E ce q u t T'.heap (locs ++ L) e1.symm (by rw [← e2]; exact X'.warmed.alike) hp hb k1 k2 k3 (by rw [e1]; exact hce) hcv hcl T' rfl X'
    exact ⟨t2, st.trans a1, b1⟩
theorem vx_calll {S SX : Type} {post : Int64 → S → Prop} {px : SX → Prop} {B : S → State → Prop} {BX : String → SX → State → Prop} {AX : Nat → Prop} (hr : vx_Run p l e R s m args below meth c H locs cells slots mc ms (F0 m pc ls st0) rest (va_Ql post B A1 a) (vx_X px BX AX) free) (hS : va_S A0 H0 H locs) (hA : ∀ q, q < H.size → A1 q → A0 q) (hf : ∀ q, free q → A0 q) (hAX : ∀ q, q < H.size → AX q → A0 q)
    (kx : ∀ (E : String) (ce : Cell) (q9 : Addr) (u : SX) (t : State) (H1 : Heap) (locs1 : List Loc), t.heap = H1 → s.vm.Alike t.vm → px u → BX E u t → H.size ≤ H1.size → (∀ q : Nat, q < H.size → ¬ AX q → H1[q]? = H[q]?) → va_S A0 H0 H1 locs1 → H1[q9]? = some ce → ce.vm = .none → s.vm.findClass E = some ce.cls → vx_W p l e R s m args below meth c H1 locs1 (cells + mc) (slots + ms) Q (F0 m pc ls rest) q9)
    (kk : ∀ (r : Int64) (u : S) (t : State) (H1 : Heap) (locs1 : List Loc), t.heap = H1 → s.vm.Alike t.vm → post r u → B u t → H.size ≤ H1.size → (∀ q : Nat, q < H.size → ¬ A1 q → H1[q]? = H[q]?) → va_S A0 H0 H1 locs1 → W p l e R s m args below meth c H1 locs1 (cells + mc) (slots + ms) Q (F0 m (pc + 3) ls (.long r :: rest))) : W p l e R s m args below meth c H locs cells slots Q (F0 m pc ls st0) := by
  intro T hT X
  rcases hr T hT X with ⟨v, st₀, t, T', L, h0, X', hL, e1, e2, ⟨⟨r, u, hv, hp, hb⟩, hF⟩, st⟩ | ⟨q, st₀, t, T', L, E, ce, h0, X', hL, e1, e2, ⟨u, hp, hb, hF⟩, hce, hcv, hcl, st⟩
  · cases hv
    obtain ⟨k1, k2, k3⟩ := vx_keep h0 e1 hS hA hf hL hF
    obtain ⟨t2, a1, b1⟩ := kk r u t T'.heap (locs ++ L) e1.symm (by rw [← e2]; exact X'.warmed.alike) hp hb k1 k2 k3 T' rfl X'
    exact ⟨t2, st t2 a1, b1⟩
  · obtain ⟨k1, k2, k3⟩ := vx_keep h0 e1 hS hAX hf hL hF
    obtain ⟨t2, a1, b1⟩ := kx E ce q u t T'.heap (locs ++ L) e1.symm (by rw [← e2]; exact X'.warmed.alike) hp hb k1 k2 k3 (by rw [e1]; exact hce) hcv hcl T' rfl X'
    exact ⟨t2, st.trans a1, b1⟩
theorem vx_callf {S SX : Type} {post : UInt32 → S → Prop} {px : SX → Prop} {B : S → State → Prop} {BX : String → SX → State → Prop} {AX : Nat → Prop} (hr : vx_Run p l e R s m args below meth c H locs cells slots mc ms (F0 m pc ls st0) rest (va_Qf post B A1 a) (vx_X px BX AX) free) (hS : va_S A0 H0 H locs) (hA : ∀ q, q < H.size → A1 q → A0 q) (hf : ∀ q, free q → A0 q) (hAX : ∀ q, q < H.size → AX q → A0 q)
    (kx : ∀ (E : String) (ce : Cell) (q9 : Addr) (u : SX) (t : State) (H1 : Heap) (locs1 : List Loc), t.heap = H1 → s.vm.Alike t.vm → px u → BX E u t → H.size ≤ H1.size → (∀ q : Nat, q < H.size → ¬ AX q → H1[q]? = H[q]?) → va_S A0 H0 H1 locs1 → H1[q9]? = some ce → ce.vm = .none → s.vm.findClass E = some ce.cls → vx_W p l e R s m args below meth c H1 locs1 (cells + mc) (slots + ms) Q (F0 m pc ls rest) q9)
    (kk : ∀ (r : UInt32) (u : S) (t : State) (H1 : Heap) (locs1 : List Loc), t.heap = H1 → s.vm.Alike t.vm → post r u → B u t → H.size ≤ H1.size → (∀ q : Nat, q < H.size → ¬ A1 q → H1[q]? = H[q]?) → va_S A0 H0 H1 locs1 → W p l e R s m args below meth c H1 locs1 (cells + mc) (slots + ms) Q (F0 m (pc + 3) ls (.float r :: rest))) : W p l e R s m args below meth c H locs cells slots Q (F0 m pc ls st0) := by
  intro T hT X
  rcases hr T hT X with ⟨v, st₀, t, T', L, h0, X', hL, e1, e2, ⟨⟨r, u, hv, hp, hb⟩, hF⟩, st⟩ | ⟨q, st₀, t, T', L, E, ce, h0, X', hL, e1, e2, ⟨u, hp, hb, hF⟩, hce, hcv, hcl, st⟩
  · cases hv
    obtain ⟨k1, k2, k3⟩ := vx_keep h0 e1 hS hA hf hL hF
    obtain ⟨t2, a1, b1⟩ := kk r u t T'.heap (locs ++ L) e1.symm (by rw [← e2]; exact X'.warmed.alike) hp hb k1 k2 k3 T' rfl X'
    exact ⟨t2, st t2 a1, b1⟩
  · obtain ⟨k1, k2, k3⟩ := vx_keep h0 e1 hS hAX hf hL hF
    obtain ⟨t2, a1, b1⟩ := kx E ce q u t T'.heap (locs ++ L) e1.symm (by rw [← e2]; exact X'.warmed.alike) hp hb k1 k2 k3 (by rw [e1]; exact hce) hcv hcl T' rfl X'
    exact ⟨t2, st.trans a1, b1⟩
theorem vx_calld {S SX : Type} {post : UInt64 → S → Prop} {px : SX → Prop} {B : S → State → Prop} {BX : String → SX → State → Prop} {AX : Nat → Prop} (hr : vx_Run p l e R s m args below meth c H locs cells slots mc ms (F0 m pc ls st0) rest (va_Qd post B A1 a) (vx_X px BX AX) free) (hS : va_S A0 H0 H locs) (hA : ∀ q, q < H.size → A1 q → A0 q) (hf : ∀ q, free q → A0 q) (hAX : ∀ q, q < H.size → AX q → A0 q)
    (kx : ∀ (E : String) (ce : Cell) (q9 : Addr) (u : SX) (t : State) (H1 : Heap) (locs1 : List Loc), t.heap = H1 → s.vm.Alike t.vm → px u → BX E u t → H.size ≤ H1.size → (∀ q : Nat, q < H.size → ¬ AX q → H1[q]? = H[q]?) → va_S A0 H0 H1 locs1 → H1[q9]? = some ce → ce.vm = .none → s.vm.findClass E = some ce.cls → vx_W p l e R s m args below meth c H1 locs1 (cells + mc) (slots + ms) Q (F0 m pc ls rest) q9)
    (kk : ∀ (r : UInt64) (u : S) (t : State) (H1 : Heap) (locs1 : List Loc), t.heap = H1 → s.vm.Alike t.vm → post r u → B u t → H.size ≤ H1.size → (∀ q : Nat, q < H.size → ¬ A1 q → H1[q]? = H[q]?) → va_S A0 H0 H1 locs1 → W p l e R s m args below meth c H1 locs1 (cells + mc) (slots + ms) Q (F0 m (pc + 3) ls (.double r :: rest))) : W p l e R s m args below meth c H locs cells slots Q (F0 m pc ls st0) := by
  intro T hT X
  rcases hr T hT X with ⟨v, st₀, t, T', L, h0, X', hL, e1, e2, ⟨⟨r, u, hv, hp, hb⟩, hF⟩, st⟩ | ⟨q, st₀, t, T', L, E, ce, h0, X', hL, e1, e2, ⟨u, hp, hb, hF⟩, hce, hcv, hcl, st⟩
  · cases hv
    obtain ⟨k1, k2, k3⟩ := vx_keep h0 e1 hS hA hf hL hF
    obtain ⟨t2, a1, b1⟩ := kk r u t T'.heap (locs ++ L) e1.symm (by rw [← e2]; exact X'.warmed.alike) hp hb k1 k2 k3 T' rfl X'
    exact ⟨t2, st t2 a1, b1⟩
  · obtain ⟨k1, k2, k3⟩ := vx_keep h0 e1 hS hAX hf hL hF
    obtain ⟨t2, a1, b1⟩ := kx E ce q u t T'.heap (locs ++ L) e1.symm (by rw [← e2]; exact X'.warmed.alike) hp hb k1 k2 k3 (by rw [e1]; exact hce) hcv hcl T' rfl X'
    exact ⟨t2, st.trans a1, b1⟩
theorem vx_callv {S SX : Type} {post : S → Prop} {px : SX → Prop} {B : S → State → Prop} {BX : String → SX → State → Prop} {AX : Nat → Prop} (hr : vx_Run p l e R s m args below meth c H locs cells slots mc ms (F0 m pc ls st0) rest (va_Qv post B A1 a) (vx_X px BX AX) free) (hS : va_S A0 H0 H locs) (hA : ∀ q, q < H.size → A1 q → A0 q) (hf : ∀ q, free q → A0 q) (hAX : ∀ q, q < H.size → AX q → A0 q)
    (kx : ∀ (E : String) (ce : Cell) (q9 : Addr) (u : SX) (t : State) (H1 : Heap) (locs1 : List Loc), t.heap = H1 → s.vm.Alike t.vm → px u → BX E u t → H.size ≤ H1.size → (∀ q : Nat, q < H.size → ¬ AX q → H1[q]? = H[q]?) → va_S A0 H0 H1 locs1 → H1[q9]? = some ce → ce.vm = .none → s.vm.findClass E = some ce.cls → vx_W p l e R s m args below meth c H1 locs1 (cells + mc) (slots + ms) Q (F0 m pc ls rest) q9)
    (kk : ∀ (u : S) (t : State) (H1 : Heap) (locs1 : List Loc), t.heap = H1 → s.vm.Alike t.vm → post u → B u t → H.size ≤ H1.size → (∀ q : Nat, q < H.size → ¬ A1 q → H1[q]? = H[q]?) → va_S A0 H0 H1 locs1 → W p l e R s m args below meth c H1 locs1 (cells + mc) (slots + ms) Q (F0 m (pc + 3) ls (rest))) : W p l e R s m args below meth c H locs cells slots Q (F0 m pc ls st0) := by
  intro T hT X
  rcases hr T hT X with ⟨v, st₀, t, T', L, h0, X', hL, e1, e2, ⟨⟨u, hv, hp, hb⟩, hF⟩, st⟩ | ⟨q, st₀, t, T', L, E, ce, h0, X', hL, e1, e2, ⟨u, hp, hb, hF⟩, hce, hcv, hcl, st⟩
  · cases hv
    obtain ⟨k1, k2, k3⟩ := vx_keep h0 e1 hS hA hf hL hF
    obtain ⟨t2, a1, b1⟩ := kk u t T'.heap (locs ++ L) e1.symm (by rw [← e2]; exact X'.warmed.alike) hp hb k1 k2 k3 T' rfl X'
    exact ⟨t2, st t2 a1, b1⟩
  · obtain ⟨k1, k2, k3⟩ := vx_keep h0 e1 hS hAX hf hL hF
    obtain ⟨t2, a1, b1⟩ := kx E ce q u t T'.heap (locs ++ L) e1.symm (by rw [← e2]; exact X'.warmed.alike) hp hb k1 k2 k3 (by rw [e1]; exact hce) hcv hcl T' rfl X'
    exact ⟨t2, st.trans a1, b1⟩
/-- caught by the row x of this method's table; the rows ahead don't take it -/
theorem vx_catch {own name : String} {E : String} {ce : Cell} {q : Addr} (hown : s.vm.findClass own = some m.cls) (pre : List ExceptionTableEntry) (x : ExceptionTableEntry) (suf : List ExceptionTableEntry) (hsplit : c.exceptionTable.toList = pre ++ x :: suf)
    (hpass : ∀ z ∈ pre, covers z pc = false ∨ (z.catchType ≠ 0 ∧ ∃ nm : String, (Cond.classLink own z.catchType nm).before args s = true ∧ va_Nc E nm s)) (hx : covers x pc = true) (h0 : x.catchType ≠ 0)
    (hlink : (Cond.classLink own x.catchType name).before args s = true) (hcast : (Cond.castable E name).before args s = true) (hcell : H[q]? = some ce) (hv : ce.vm = .none) (hcl : s.vm.findClass E = some ce.cls)
    (kk : W p l e R s m args below meth c H locs cells slots Q (F0 m x.handlerPc ls [.ref q])) : vx_W p l e R s m args below meth c H locs cells slots Q (F0 m pc ls rest) q := by
  intro T hT X
  have hpl : e.platform.magicAccessors = ({} : Platform).magicAccessors := by rw [X.admits.platform]
  obtain ⟨c3, c4, hc3, hc4, hasg⟩ := Cond.castable_spec hcast
  cases Option.some.inj (hc3.symm.trans hcl)
  obtain ⟨c5, hc5, hcl5⟩ := Cond.classLink_spec hown hlink e.platform hpl
  cases Option.some.inj (hc4.symm.trans hc5)
  obtain ⟨vm', X', st⟩ := X.thenCaughtThrough q (g := F0 m pc ls rest) rfl (Steps.refl _) (by rw [hT]; exact hcell) (by rw [hv]; rfl) (by obtain ⟨k9, h9, -⟩ := Vm.findClass_spec hcl; exact ⟨k9, h9⟩) pre x suf hsplit
    (fun z hz => by
      rcases hpass z hz with h | ⟨hz0, nm, hl1, hn1⟩
      · exact Or.inl h
      · obtain ⟨c6, hc6, hcl6⟩ := Cond.classLink_spec hown hl1 e.platform hpl
        obtain ⟨a8, b8, h1, h2, h3⟩ := hn1
        cases Option.some.inj (h1.symm.trans hcl)
        cases Option.some.inj (h2.symm.trans hc6)
        exact Or.inr ⟨hz0, _, hcl6, h3⟩) hx (Or.inr ⟨h0, c4, hcl5, hasg⟩)
  obtain ⟨t, a1, b1⟩ := kk (T.setVm vm') hT X'
  exact ⟨t, st.trans a1, b1⟩
end Rows
section Ends
variable {p : Program} {l : Launch} {e : Env} {R : Room} {s : State} {m : MethodId} {args : Array Value} {below : List Frame} {meth : Method} {c : Code} {H : Heap} {locs : List Loc} {cells slots : Nat} {Q : State → Prop}
variable {mc ms : Nat} {free : Addr → Prop} {A0 A1 : Nat → Prop} {H0 : Heap} {a : Array Value} {ls : Array Slot} {st0 rest : List Value}
variable {Qc : Array Value → State → Outcome → State → Prop} {XC : String → State → State → Prop}
/-- what a body that may throw owes at its end -/
def vx_MQ (below : List Frame) (Qc : Array Value → State → Outcome → State → Prop) (XC : String → State → State → Prop) (a : Array Value) (s : State) (mc ms : Nat) (free : Addr → Prop) : State → Prop := fun t =>
  ∃ o, t.status = .running ∧ Ended t below o ∧ vx_Q Qc XC mc ms free a s o t
theorem vx_ret {g : JFrame} {mc ms : Nat} (k : W p l e R s m args below meth c H locs cells slots (MQ below Qc args s mc ms free) g) : W p l e R s m args below meth c H locs cells slots (vx_MQ below Qc XC args s mc ms free) g := by
  intro T hT X
  obtain ⟨t, a1, o, b1, b2, b3, b4⟩ := k T hT X
  exact ⟨t, a1, o, b1, b2, Or.inl ⟨b3, b4⟩⟩
/-- not caught here: it goes on to the caller -/
theorem vx_widen {g : JFrame} {q : Addr} {k n : Nat} (h1 : cells ≤ k) (h2 : slots ≤ n) (kk : vx_W p l e R s m args below meth c H locs k n Q g q) : vx_W p l e R s m args below meth c H locs cells slots Q g q := fun T hT X => kk T hT (stand_widen X h1 h2)
theorem vx_out {pc : Nat} {E : String} {ce : Cell} {q : Addr} {mc ms : Nat} (hout : ∀ x ∈ c.exceptionTable.toList, covers x pc = false) (hlocks : meth.locks = false) (hcell : H[q]? = some ce) (hv : ce.vm = .none) (hcl : s.vm.findClass E = some ce.cls)
    (hx : ∀ t : State, t.heap = H → s.vm.Alike t.vm → XC E s t) (hf : ∀ z ∈ locs, free z.base) (hc : cells ≤ mc) (hs : slots ≤ ms) :
    vx_W p l e R s m args below meth c H locs cells slots (vx_MQ below Qc XC args s mc ms free) (F0 m pc ls rest) q := by
  intro T hT X
  obtain ⟨st1, hrun, hend, hW, hsm⟩ := X.leaveThrown q (g := F0 m pc ls rest) rfl rfl rfl hout hlocks
  have hcell9 : (T.setFrames (.throwing q :: below)).heap[q]? = some ce := by
    show T.heap[q]? = some ce
    rw [hT]; exact hcell
  exact ⟨_, st1, .threw q, hrun, hend, Or.inr ⟨q, rfl, E, ce, locs, hx _ hT hW.alike, hcell9, hv, hcl, hW, hsm.mono hc hs, hf⟩⟩
theorem vx_frame {U : State} {k n : Nat} (h : s.sameButNew ({ U with vm := s.vm } : State) locs k n) : s.heap.size ≤ U.heap.size ∧ ∀ q : Nat, q < s.heap.size → (∀ z ∈ locs, z.base ≠ q) → U.heap[q]? = s.heap[q]? := by
  obtain ⟨-, h2, -, -, -, h6⟩ := h
  refine ⟨h2, fun q hq hz => ?_⟩
  obtain ⟨c9, e1, e2, e3, e4⟩ := h6 q _ (Array.getElem?_eq_getElem hq)
  have hs : c9.slots = (s.heap[q]).slots := Array.ext_getElem? fun i => e4 i fun hm => hz _ hm rfl
  have h9 : c9 = s.heap[q] := by
    rw [hs] at e2
    exact e2
  have e5 : U.heap[q]? = some c9 := e1
  rw [e5, h9, Array.getElem?_eq_getElem hq]
/-- the words of a throw but the four that speak of the heap -/
def vx_no (w : Cond) : Bool := decide (w ≠ .isRef (.static Bundle.tN "UNASSIGNED_STACK" Bundle.steD)) && decide (w ≠ .isRef (.static Bundle.tN "SUPPRESSED_SENTINEL" Bundle.listD)) && decide (w ≠ .laysStatic Bundle.tN "UNASSIGNED_STACK" Bundle.steD) && decide (w ≠ .laysStatic Bundle.tN "SUPPRESSED_SENTINEL" Bundle.listD)
def vx_at0 (own : String) (ic : Nat) (X : String) (names : List String) : List Cond := (Bundle.ownAtoms0 own ic X names).filter vx_no
def vx_atS (own : String) (ic : Nat) (X : String) (names : List String) : List Cond := (Bundle.ownAtoms own ic X names).filter vx_no
/-- a word that the tables alone decide, or a good one -/
def vx_ot (w : Cond) : Bool := w.onTables || goodWord w
theorem vx_ot_at {args a' : Array Value} {s U : State} {w : Cond} (hW : s.WarmedH U.vm) (hvm : s.vm = U.vm) (hg : vx_ot w = true) (h : w.before args s = true) : w.before a' U = true := by
  simp only [vx_ot, Bool.or_eq_true] at hg
  rcases hg with hg | hg
  · exact va_tabs hg hvm h
  · exact word_at hW (good_of_word hg) h
/-- a list's words: the good ones out of the method's own list, the others by premises of their own -/
theorem vx_hat {args : Array Value} {s : State} {L B : List Cond} (h1 : ∀ w ∈ L.filter goodWord, w.before args s = true) (h2 : ∀ w ∈ L.filter (fun w => !goodWord w), w ∈ B) (h3 : ∀ w ∈ B, w.before args s = true) : ∀ w ∈ L, w.before args s = true := by
  intro w hw
  by_cases g : goodWord w = true
  · exact h1 w (List.mem_filter.mpr ⟨hw, g⟩)
  · refine h3 w (h2 w (List.mem_filter.mpr ⟨hw, ?_⟩))
    show (!goodWord w) = true
    cases hgw : goodWord w
    · rfl
    · exact absurd hgw g
theorem vx_c {args : Array Value} {s : State} {w : Cond} {B : List Cond} (h : w.before args s = true) (t : ∀ w ∈ B, w.before args s = true) : ∀ w' ∈ w :: B, w'.before args s = true := fun w' h' => (List.mem_cons.mp h').elim (fun e => by rw [e]; exact h) (t w')
theorem vx_n {args : Array Value} {s : State} : ∀ w ∈ ([] : List Cond), w.before args s = true := fun _ h => nomatch h
theorem vx_own {args : Array Value} {s : State} {L : List Cond} (h1 : ∀ w ∈ L.filter vx_no, w.before args s = true)
    (hU : (Cond.isRef (.static Bundle.tN "UNASSIGNED_STACK" Bundle.steD)).before args s = true) (hN : (Cond.isRef (.static Bundle.tN "SUPPRESSED_SENTINEL" Bundle.listD)).before args s = true)
    (lU : (Cond.laysStatic Bundle.tN "UNASSIGNED_STACK" Bundle.steD).before args s = true) (lN : (Cond.laysStatic Bundle.tN "SUPPRESSED_SENTINEL" Bundle.listD).before args s = true) : ∀ w ∈ L, w.before args s = true := by
  intro w hw
  by_cases e1 : w = .isRef (.static Bundle.tN "UNASSIGNED_STACK" Bundle.steD)
  · rw [e1]; exact hU
  · by_cases e2 : w = .isRef (.static Bundle.tN "SUPPRESSED_SENTINEL" Bundle.listD)
    · rw [e2]; exact hN
    · by_cases e3 : w = .laysStatic Bundle.tN "UNASSIGNED_STACK" Bundle.steD
      · rw [e3]; exact lU
      · by_cases e4 : w = .laysStatic Bundle.tN "SUPPRESSED_SENTINEL" Bundle.listD
        · rw [e4]; exact lN
        · exact h1 w (List.mem_filter.mpr ⟨hw, by unfold vx_no; rw [decide_eq_true e1, decide_eq_true e2, decide_eq_true e3, decide_eq_true e4]; rfl⟩)
/-- where a static field lies, its class's statics cell in H -/
def vx_L (C n d : String) (A : Nat → Prop) (U : State) (H : Heap) : Prop := ∃ (c : ClassId) (k : Class) (i : Nat) (f : Field) (a : Nat) (cell : Cell), U.vm.findClass C = some c ∧ U.fieldFound? C n d = some (c, k, i, f) ∧ f.isStatic = true ∧ k.statics = some a ∧ H[a]? = some cell ∧ cell.vm.isStatics = true ∧ cell.cls = c ∧ f.slot < cell.slots.size ∧ k.staticTypes[f.slot]? = some f.type ∧ ¬ A a
theorem vx_L.moved {C n d : String} {A : Nat → Prop} {u U : State} {H : Heap} (hvm : u.vm.Alike U.vm) (h : vx_L C n d A u H) : vx_L C n d A U H := by
  obtain ⟨c, k, i, f, a, cell, h1, h2, h3, h4, h5, h6, h7, h8, h9, h10⟩ := h
  obtain ⟨k', hi', he⟩ := State.fieldFound?_setVm hvm h2
  exact ⟨c, k', i, f, a, cell, by rw [hvm.findClass]; exact h1, hi', h3, by rw [he]; exact h4, h5, h6, h7, h8, by rw [he]; exact h9, h10⟩
theorem vx_L.kept {C n d : String} {A : Nat → Prop} {U : State} {H H1 : Heap} (h : vx_L C n d A U H) (hq : ∀ a : Nat, a < H.size → ¬ A a → H1[a]? = H[a]?) : vx_L C n d A U H1 := by
  obtain ⟨c, k, i, f, a, cell, h1, h2, h3, h4, h5, h6, h7, h8, h9, h10⟩ := h
  exact ⟨c, k, i, f, a, cell, h1, h2, h3, h4, by rw [hq a (Array.getElem?_eq_some_iff.mp h5).1 h10]; exact h5, h6, h7, h8, h9, h10⟩
theorem vx_L.narrow {C n d : String} {A B : Nat → Prop} {U : State} {H : Heap} (h : vx_L C n d A U H) (hAB : ∀ q, B q → A q) : vx_L C n d B U H := by
  obtain ⟨c, k, i, f, a, cell, h1, h2, h3, h4, h5, h6, h7, h8, h9, h10⟩ := h
  exact ⟨c, k, i, f, a, cell, h1, h2, h3, h4, h5, h6, h7, h8, h9, fun z => h10 (hAB _ z)⟩
theorem vx_L.word {C n d : String} {A : Nat → Prop} {s : State} {args : Array Value} (h : vx_L C n d A s s.heap) : (Cond.laysStatic C n d).before args s = true := by
  obtain ⟨c, k, i, f, a, cell, h1, h2, h3, h4, h5, h6, h7, h8, h9, -⟩ := h
  show (Cond.laysStatic C n d).holds args s none s [] = true
  exact Cond.laysStatic_of h1 h2 h3 h4 h5 h6 h7 h8 h9
/-- .. and what it holds: null or some reference -/
def vx_Zq (C n d : String) (A : Nat → Prop) (U : State) (H : Heap) : Prop := va_Zq C n d A U H ∧ vx_L C n d A U H
theorem vx_Zq.moved {C n d : String} {A : Nat → Prop} {u U : State} {H : Heap} (hvm : u.vm.Alike U.vm) (h : vx_Zq C n d A u H) : vx_Zq C n d A U H := ⟨va_Zq.moved hvm h.1, vx_L.moved hvm h.2⟩
theorem vx_Zq.kept {C n d : String} {A : Nat → Prop} {U : State} {H H1 : Heap} (h : vx_Zq C n d A U H) (hq : ∀ a : Nat, a < H.size → ¬ A a → H1[a]? = H[a]?) : vx_Zq C n d A U H1 := ⟨va_Zq.kept h.1 hq, vx_L.kept h.2 hq⟩
theorem vx_Zq.narrow {C n d : String} {A B : Nat → Prop} {U : State} {H : Heap} (h : vx_Zq C n d A U H) (hAB : ∀ q, B q → A q) : vx_Zq C n d B U H := ⟨va_Zq.narrow h.1 hAB, vx_L.narrow h.2 hAB⟩
theorem vx_Zqof {args : Array Value} {s : State} {C n d : String} {A : Nat → Prop} (hl : (Cond.laysStatic C n d).before args s = true) (hini : (Cond.initialized C).before args s = true) (h : (Cond.isRef (.static C n d)).before args s = true) (hA : ∀ a : Nat, a < s.heap.size → ¬ A a) : vx_Zq C n d A s s.heap := by
  refine ⟨va_Zqof hl hini h hA, ?_⟩
  obtain ⟨c, k, i, f, a, cell, h1, h2, h3, h4, h5, h6, h7, h8, h9⟩ := Cond.laysStatic_spec hl
  exact ⟨c, k, i, f, a, cell, h1, h2, h3, h4, h5, h6, h7, h8, h9, hA a (Array.getElem?_eq_some_iff.mp h5).1⟩
theorem vx_isRef {C n d : String} {v : Value} {A : Nat → Prop} {s : State} {args : Array Value} (h : va_Z C n d v A s s.heap) (hv : v.isRef = true) : (Cond.isRef (.static C n d)).before args s = true := by
  obtain ⟨cf, kf, fi, f, a, cell, h1, h2, h3, h4, h5, h6, h7, -⟩ := h
  have he : (Term.static C n d).eval args s none [] s = some v := by
    simp [Term.eval, State.fieldNamed?, h1, h2, h4, h5, h6, h7]
  simp only [Cond.before, Cond.holds, Cond.value, he]
  cases v <;> simp_all [Value.isRef]
theorem vx_isRefq {C n d : String} {A : Nat → Prop} {s : State} {args : Array Value} (h : va_Zq C n d A s s.heap) : (Cond.isRef (.static C n d)).before args s = true := by
  rcases h with h | ⟨t, h⟩
  · exact vx_isRef h rfl
  · exact vx_isRef h rfl
/-- the same frame, seen from here: as if the method were called anew in this heap -/
theorem vx_rebase {T : State} (X : Stand p l e R s m args below meth c T locs cells slots) {R' : Room} (hf : R'.frames ≤ R.frames) (hl : R'.locals ≤ R.locals) (hc : cells + R'.cells ≤ R.cells) (hs : slots + R'.slots ≤ R.slots) :
    Stand p l e R' ((T.setVm s.vm).setFrames (.invoking m args :: below)) m args below meth c T [] 0 0 := by
  have htop : (T.setVm s.vm).topJava?.isSome := X.here.top
  have hF : ((T.setVm s.vm).setFrames (.invoking m args :: below)).frames = .invoking m args :: below := State.frames_setFrames _ (State.cur_lt_of_top htop)
  obtain ⟨g₀, hg0⟩ := Option.isSome_iff_exists.mp htop
  obtain ⟨r, hr⟩ := State.topJava?_eq_some.mp hg0
  have hl9 : e.platform.stackLimits (T.setVm s.vm).me = e.platform.stackLimits s.me := X.limits
  have hb9 : (T.setVm s.vm).me.stackBytes = s.me.stackBytes := X.bytes
  refine ⟨X.admits, X.cas, X.clock, hF, ?_, X.hears, X.method, X.code, X.here, X.tail, X.warmed, ?_, ?_, ?_⟩
  · have h := X.room
    have hU : ((T.setVm s.vm).setFrames (.invoking m args :: below)).localsInUse = s.localsInUse := by
      rw [State.localsInUse_invoking hF (meth := meth) (c := c) X.method X.code, State.localsInUse_invoking X.frames X.method X.code]
    simp only [State.hasRoom, Bool.and_eq_true, decide_eq_true_eq] at h ⊢
    obtain ⟨⟨⟨⟨h1, h2, h3, h4, h5, h6⟩, h7⟩, h8⟩, h9⟩ := h
    rw [X.frames, List.length_cons] at h2 h3
    have q1 := X.heapSize
    have q2 := X.used
    simp only [hF, hU, List.length_cons, State.stackLimits_setFrames, State.stackBytes_setFrames, hl9, hb9]
    refine ⟨⟨⟨⟨by omega, by omega, by omega, by omega, by omega, h6⟩, ?_⟩, ?_⟩, X.book⟩
    · show T.heap.size + R'.cells ≤ e.platform.maxCells
      omega
    · show T.slotsUsed + R'.slots ≤ e.platform.maxSlots
      omega
  · rw [State.stackLimits_setFrames]; rfl
  · rw [State.stackBytes_setFrames]; rfl
  · refine ⟨?_, Nat.le_refl _, Nat.le_refl _, ?_, ?_, fun a c9 h9 => ⟨c9, h9, rfl, rfl, fun _ _ => rfl⟩⟩
    · obtain ⟨t, ht, -⟩ := State.frames_cons hr
      show T.setVm s.vm = { ((T.setVm s.vm).setFrames (.invoking m args :: below)).setFrames (T.setVm s.vm).frames with heap := T.heap, slotsUsed := T.slotsUsed }
      rw [State.setFrames_setFrames, State.setFrames_self ht]
      rfl
    · show T.slotsUsed = T.slotsUsed + ((T.heap.toList.drop T.heap.size).map (·.slots.size)).sum
      rw [List.drop_eq_nil_of_le (Nat.le_of_eq Array.length_toList)]
      rfl
    · show ((T.heap.toList.drop T.heap.size).map (·.slots.size)).sum ≤ 0
      rw [List.drop_eq_nil_of_le (Nat.le_of_eq Array.length_toList)]
      exact Nat.le_refl _
/-- 'throw new E()': new; dup; invokespecial; athrow -/
theorem vx_throw0 {cc : ByteArray} {pc : Nat} (hexec : p.tables.exec = Jvm.exec) (hb : c.code = cc) (hl : l.stackTraces = false) {own cls : String} {names : List String} {ik ic mc ms : Nat} {A : Nat → Prop}
    (hown : s.vm.findClass own = some m.cls) (hcls : Bundle.fit cls = true) (hnames : ∀ n ∈ names, Bundle.fit n = true)
    (hk : (Cond.classLink own ik cls).before args s = true) (hini : (Cond.initialized cls).before args s = true) (hat : ∀ w ∈ vx_at0 own ic cls names, w.before args s = true)
    (hgood : ∀ w ∈ Cond.classLink own ik cls :: Cond.initialized cls :: vx_at0 own ic cls names, vx_ot w = true)
    (hU : vx_Zq Bundle.tN "UNASSIGNED_STACK" Bundle.steD A s s.heap) (hN : vx_Zq Bundle.tN "SUPPRESSED_SENTINEL" Bundle.listD A s s.heap) (hS : va_S A s.heap H locs) (hsize : ls.size = c.maxLocals)
    (d0 : decode cc pc = .ok (.new ik, 3)) (d3 : decode cc (pc + 3) = .ok (.dup, 1)) (d4 : decode cc (pc + 4) = .ok (.invokespecial ic, 3)) (d7 : decode cc (pc + 7) = .ok (.athrow, 1))
    (hout : ∀ x ∈ c.exceptionTable.toList, covers x (pc + 7) = false)
    (hRframes : names.length + 3 < R.frames) (hRlocals : (rest.map fun v => v.category).sum + (13 * (names.length + 1) + 42) ≤ R.locals) (hRcells : cells + 1 ≤ R.cells) (hRslots : slots + 6 ≤ R.slots) (hlocks : meth.locks = false)
    (hx : ∀ t : State, s.vm.Alike t.vm → H.size ≤ t.heap.size → (∀ q : Nat, q < H.size → t.heap[q]? = H[q]?) → XC cls s t)
    (hf : ∀ z ∈ locs, free z.base) (hc : cells + 1 ≤ mc) (hs : slots + 6 ≤ ms) :
    W p l e R s m args below meth c H locs cells slots (vx_MQ below Qc XC args s mc ms free) (F0 m pc ls rest) := by
  intro T hT X
  have htr : e.platform.stackTraces = false := (show e.platform.stackTraces = l.stackTraces by rw [X.admits.platform]).trans hl
  have Y := vx_rebase X (R' := { frames := R.frames, locals := R.locals, cells := 1, slots := 6 }) (Nat.le_refl _) (Nat.le_refl _) hRcells hRslots
  obtain ⟨s', hA⟩ : ∃ z, z = (T.setVm s.vm).setFrames (.invoking m args :: below) := ⟨_, rfl⟩
  rw [← hA] at Y
  have hvm : s'.vm = s.vm := by rw [hA]; rfl
  have hhp : s'.heap = H := by rw [hA]; exact hT
  have hW0 : s.WarmedH s'.vm := by rw [hvm]; exact State.WarmedH.refl s
  have hat' : ∀ w ∈ vx_at0 own ic cls names, w.before args s' = true := fun w hw => vx_ot_at hW0 hvm.symm (hgood w (List.mem_cons_of_mem _ (List.mem_cons_of_mem _ hw))) (hat w hw)
  have hk' : (Cond.classLink own ik cls).before args s' = true := vx_ot_at hW0 hvm.symm (hgood _ List.mem_cons_self) hk
  have hini' : (Cond.initialized cls).before args s' = true := vx_ot_at hW0 hvm.symm (hgood _ (List.mem_cons_of_mem _ List.mem_cons_self)) hini
  have hU' : vx_Zq Bundle.tN "UNASSIGNED_STACK" Bundle.steD A s' s'.heap := by rw [hhp]; exact vx_Zq.moved hW0.alike (hU.kept hS.2.1)
  have hN' : vx_Zq Bundle.tN "SUPPRESSED_SENTINEL" Bundle.listD A s' s'.heap := by rw [hhp]; exact vx_Zq.moved hW0.alike (hN.kept hS.2.1)
  have h : ∀ w ∈ Bundle.ownAtoms0 own ic cls names, w.before args s' = true := vx_own hat' (vx_isRefq hU'.1) (vx_isRefq hN'.1) hU'.2.word hN'.2.word
  have hown' : s'.vm.findClass own = some m.cls := by rw [hvm]; exact hown
  have hins : (Cond.instantiable cls 6).before args s' = true := h _ (by simp [Bundle.ownAtoms0])
  obtain ⟨vm₁, cX, kX, hfX, hkX, -, -, X₁, st1⟩ := Y.newCold hexec (own := own) (C := cls) (index := ik) (n := 6) hown' hk' hins hini'
    (g := F0 m pc ls rest) rfl (by rw [hb]; exact d0) (Nat.le_refl _) (Nat.le_refl _)
  generalize hT1 : (T.setVm vm₁).pushCell { cls := cX, slots := kX.instanceTypes.map defaultValue, vm := .none } = T1 at X₁ st1
  have hcat : (Value.ref T.heap.size).category = 1 := rfl
  have hcellA : T1.heap[T.heap.size]? = some (freshCell cX kX) := by rw [← hT1]; exact State.heap_pushCell_size _ _
  have d3' : decode c.code (pc + 3) = .ok (.dup, 1) := by rw [hb]; exact d3
  obtain ⟨U, hsteps, hrun, hend, hW, hsame, ce, hce, hO⟩ := X₁.ctorThrow0 hexec htr (own := own) (cls := cls) (names := names) (ic := ic) hown' hcls hnames h (fun x hx => nomatch hx) hfX hkX hcellA (by rw [hhp, hT]; exact Nat.le_refl _)
    (g := { method := m, pc := pc + 4, locals := ls, stack := .ref T.heap.size :: .ref T.heap.size :: rest, locked := none }) rfl hsize rfl rfl (rest := rest) rfl
    (by rw [hb]; exact d4) (by rw [hb]; exact d7) hout hRframes (by simp only [List.map_cons, List.sum_cons, hcat]; omega) hlocks
  obtain ⟨f1, f2⟩ := vx_frame hsame
  rw [hhp] at f1 f2
  have hWs : s.WarmedH U.vm := State.WarmedH.trans hW0 hW
  have hcl : s.vm.findClass cls = some ce.cls := by
    have h9 := hO.cls
    rw [hvm] at h9
    exact h9
  have hall : s.sameButNew ({ U with vm := s.vm } : State) locs mc ms := by
    subst hA
    obtain ⟨e1, e2⟩ := hsame
    rw [State.setFrames_setFrames] at e1
    have h2 : (T.setVm s.vm).sameButNew ({ U with vm := s.vm } : State) [] (0 + 1) (0 + 6) := ⟨e1, e2⟩
    have h3 := X.same.trans h2
    rw [List.append_nil] at h3
    exact h3.mono hc hs
  refine ⟨U, ?_, .threw T.heap.size, hrun, hend, Or.inr ⟨T.heap.size, rfl, cls, ce, locs, hx U hWs.alike f1 (fun q hq => f2 q hq (fun z hz => nomatch hz)), hce, hO.vm, hcl, hWs, hall, hf⟩⟩
  refine st1 _ ?_
  show Steps p.tables e below (T1.setTop { method := m, pc := pc + 3, locals := ls, stack := .ref T.heap.size :: rest, locked := none }) _
  jvm_step X₁.here [X₁.here.top, hexec, d3', Value.category]
  exact hsteps
/-- 'throw new E("text")': new; dup; ldc; invokespecial; athrow -/
theorem vx_throwS {cc : ByteArray} {pc : Nat} (hexec : p.tables.exec = Jvm.exec) (hb : c.code = cc) (hl : l.stackTraces = false) {own cls text : String} {names : List String} {ik is ic mc ms sa : Nat} {A : Nat → Prop}
    (hown : s.vm.findClass own = some m.cls) (hcls : Bundle.fit cls = true) (hnames : ∀ n ∈ names, Bundle.fit n = true)
    (hk : (Cond.classLink own ik cls).before args s = true) (hini : (Cond.initialized cls).before args s = true) (hstr : vk_R own is text sa s) (hat : ∀ w ∈ vx_atS own ic cls names, w.before args s = true)
    (hgood : ∀ w ∈ Cond.classLink own ik cls :: Cond.initialized cls :: vx_atS own ic cls names, vx_ot w = true)
    (hU : vx_Zq Bundle.tN "UNASSIGNED_STACK" Bundle.steD A s s.heap) (hN : vx_Zq Bundle.tN "SUPPRESSED_SENTINEL" Bundle.listD A s s.heap) (hS : va_S A s.heap H locs) (hsize : ls.size = c.maxLocals)
    (d0 : decode cc pc = .ok (.new ik, 3)) (d3 : decode cc (pc + 3) = .ok (.dup, 1)) (d4 : decode cc (pc + 4) = .ok (.ldc is, 2)) (d6 : decode cc (pc + 6) = .ok (.invokespecial ic, 3)) (d9 : decode cc (pc + 9) = .ok (.athrow, 1))
    (hout : ∀ x ∈ c.exceptionTable.toList, covers x (pc + 9) = false)
    (hRframes : names.length + 3 < R.frames) (hRlocals : (rest.map fun v => v.category).sum + (13 * (names.length + 1) + 43) ≤ R.locals) (hRcells : cells + 1 ≤ R.cells) (hRslots : slots + 6 ≤ R.slots) (hlocks : meth.locks = false)
    (hx : ∀ t : State, s.vm.Alike t.vm → H.size ≤ t.heap.size → (∀ q : Nat, q < H.size → t.heap[q]? = H[q]?) → XC cls s t)
    (hf : ∀ z ∈ locs, free z.base) (hc : cells + 1 ≤ mc) (hs : slots + 6 ≤ ms) :
    W p l e R s m args below meth c H locs cells slots (vx_MQ below Qc XC args s mc ms free) (F0 m pc ls rest) := by
  intro T hT X
  have htr : e.platform.stackTraces = false := (show e.platform.stackTraces = l.stackTraces by rw [X.admits.platform]).trans hl
  have Y := vx_rebase X (R' := { frames := R.frames, locals := R.locals, cells := 1, slots := 6 }) (Nat.le_refl _) (Nat.le_refl _) hRcells hRslots
  obtain ⟨s', hA⟩ : ∃ z, z = (T.setVm s.vm).setFrames (.invoking m args :: below) := ⟨_, rfl⟩
  rw [← hA] at Y
  have hvm : s'.vm = s.vm := by rw [hA]; rfl
  have hhp : s'.heap = H := by rw [hA]; exact hT
  have hW0 : s.WarmedH s'.vm := by rw [hvm]; exact State.WarmedH.refl s
  have hat' : ∀ w ∈ vx_atS own ic cls names, w.before args s' = true := fun w hw => vx_ot_at hW0 hvm.symm (hgood w (List.mem_cons_of_mem _ (List.mem_cons_of_mem _ hw))) (hat w hw)
  have hk' : (Cond.classLink own ik cls).before args s' = true := vx_ot_at hW0 hvm.symm (hgood _ List.mem_cons_self) hk
  have hini' : (Cond.initialized cls).before args s' = true := vx_ot_at hW0 hvm.symm (hgood _ (List.mem_cons_of_mem _ List.mem_cons_self)) hini
  have hU' : vx_Zq Bundle.tN "UNASSIGNED_STACK" Bundle.steD A s' s'.heap := by rw [hhp]; exact vx_Zq.moved hW0.alike (hU.kept hS.2.1)
  have hN' : vx_Zq Bundle.tN "SUPPRESSED_SENTINEL" Bundle.listD A s' s'.heap := by rw [hhp]; exact vx_Zq.moved hW0.alike (hN.kept hS.2.1)
  have h : ∀ w ∈ Bundle.ownAtoms own ic cls names, w.before args s' = true := vx_own hat' (vx_isRefq hU'.1) (vx_isRefq hN'.1) hU'.2.word hN'.2.word
  have hown' : s'.vm.findClass own = some m.cls := by rw [hvm]; exact hown
  have hins : (Cond.instantiable cls 6).before args s' = true := h _ (by simp [Bundle.ownAtoms])
  obtain ⟨vm₁, cX, kX, hfX, hkX, -, -, X₁, st1⟩ := Y.newCold hexec (own := own) (C := cls) (index := ik) (n := 6) hown' hk' hins hini'
    (g := F0 m pc ls rest) rfl (by rw [hb]; exact d0) (Nat.le_refl _) (Nat.le_refl _)
  generalize hT1 : (T.setVm vm₁).pushCell { cls := cX, slots := kX.instanceTypes.map defaultValue, vm := .none } = T1 at X₁ st1
  have hcat : (Value.ref T.heap.size).category = 1 := rfl
  have hcellA : T1.heap[T.heap.size]? = some (freshCell cX kX) := by rw [← hT1]; exact State.heap_pushCell_size _ _
  have d3' : decode c.code (pc + 3) = .ok (.dup, 1) := by rw [hb]; exact d3
  have d4' : decode c.code (pc + 4) = .ok (.ldc is, 2) := by rw [hb]; exact d4
  have hstr' : vk_R own is text sa s' := vk_R.warm hW0 hstr
  obtain ⟨U, hsteps, hrun, hend, hW, hsame, ce, hce, hO⟩ := X₁.ctorThrowS hexec htr (own := own) (cls := cls) (names := names) (ic := ic) hown' hcls hnames h (fun x hx => nomatch hx) hfX hkX hcellA (by rw [hhp, hT]; exact Nat.le_refl _) (msg := .ref sa) rfl
    (g := { method := m, pc := pc + 6, locals := ls, stack := .ref sa :: .ref T.heap.size :: .ref T.heap.size :: rest, locked := none }) rfl hsize rfl rfl (rest := rest) rfl
    (by rw [hb]; exact d6) (by rw [hb]; exact d9) hout hRframes (by simp only [List.map_cons, List.sum_cons, hcat]; omega) hlocks
  obtain ⟨f1, f2⟩ := vx_frame hsame
  rw [hhp] at f1 f2
  have hWs : s.WarmedH U.vm := State.WarmedH.trans hW0 hW
  have hcl : s.vm.findClass cls = some ce.cls := by
    have h9 := hO.cls
    rw [hvm] at h9
    exact h9
  have hall : s.sameButNew ({ U with vm := s.vm } : State) locs mc ms := by
    subst hA
    obtain ⟨e1, e2⟩ := hsame
    rw [State.setFrames_setFrames] at e1
    have h2 : (T.setVm s.vm).sameButNew ({ U with vm := s.vm } : State) [] (0 + 1) (0 + 6) := ⟨e1, e2⟩
    have h3 := X.same.trans h2
    rw [List.append_nil] at h3
    exact h3.mono hc hs
  refine ⟨U, ?_, .threw T.heap.size, hrun, hend, Or.inr ⟨T.heap.size, rfl, cls, ce, locs, hx U hWs.alike f1 (fun q hq => f2 q hq (fun z hz => nomatch hz)), hce, hO.vm, hcl, hWs, hall, hf⟩⟩
  refine st1 _ ?_
  show Steps p.tables e below (T1.setTop { method := m, pc := pc + 3, locals := ls, stack := .ref T.heap.size :: rest, locked := none }) _
  jvm_step X₁.here [X₁.here.top, hexec, d3', Value.category]
  exact X₁.ldcString hexec (own := own) (text := text) (index := is) (a := sa) hown' hstr'.1 hstr'.2
    (g := { method := m, pc := pc + 4, locals := ls, stack := .ref T.heap.size :: .ref T.heap.size :: rest, locked := none }) rfl d4' _ hsteps
/-- 'throw new E("text")', the text by a wide index -/
theorem vx_throwSW {cc : ByteArray} {pc : Nat} (hexec : p.tables.exec = Jvm.exec) (hb : c.code = cc) (hl : l.stackTraces = false) {own cls text : String} {names : List String} {ik is ic mc ms sa : Nat} {A : Nat → Prop}
    (hown : s.vm.findClass own = some m.cls) (hcls : Bundle.fit cls = true) (hnames : ∀ n ∈ names, Bundle.fit n = true)
    (hk : (Cond.classLink own ik cls).before args s = true) (hini : (Cond.initialized cls).before args s = true) (hstr : vk_R own is text sa s) (hat : ∀ w ∈ vx_atS own ic cls names, w.before args s = true)
    (hgood : ∀ w ∈ Cond.classLink own ik cls :: Cond.initialized cls :: vx_atS own ic cls names, vx_ot w = true)
    (hU : vx_Zq Bundle.tN "UNASSIGNED_STACK" Bundle.steD A s s.heap) (hN : vx_Zq Bundle.tN "SUPPRESSED_SENTINEL" Bundle.listD A s s.heap) (hS : va_S A s.heap H locs) (hsize : ls.size = c.maxLocals)
    (d0 : decode cc pc = .ok (.new ik, 3)) (d3 : decode cc (pc + 3) = .ok (.dup, 1)) (d4 : decode cc (pc + 4) = .ok (.ldc_w is, 3)) (d7 : decode cc (pc + 7) = .ok (.invokespecial ic, 3)) (d10 : decode cc (pc + 10) = .ok (.athrow, 1))
    (hout : ∀ x ∈ c.exceptionTable.toList, covers x (pc + 10) = false)
    (hRframes : names.length + 3 < R.frames) (hRlocals : (rest.map fun v => v.category).sum + (13 * (names.length + 1) + 43) ≤ R.locals) (hRcells : cells + 1 ≤ R.cells) (hRslots : slots + 6 ≤ R.slots) (hlocks : meth.locks = false)
    (hx : ∀ t : State, s.vm.Alike t.vm → H.size ≤ t.heap.size → (∀ q : Nat, q < H.size → t.heap[q]? = H[q]?) → XC cls s t)
    (hf : ∀ z ∈ locs, free z.base) (hc : cells + 1 ≤ mc) (hs : slots + 6 ≤ ms) :
    W p l e R s m args below meth c H locs cells slots (vx_MQ below Qc XC args s mc ms free) (F0 m pc ls rest) := by
  intro T hT X
  have htr : e.platform.stackTraces = false := (show e.platform.stackTraces = l.stackTraces by rw [X.admits.platform]).trans hl
  have Y := vx_rebase X (R' := { frames := R.frames, locals := R.locals, cells := 1, slots := 6 }) (Nat.le_refl _) (Nat.le_refl _) hRcells hRslots
  obtain ⟨s', hA⟩ : ∃ z, z = (T.setVm s.vm).setFrames (.invoking m args :: below) := ⟨_, rfl⟩
  rw [← hA] at Y
  have hvm : s'.vm = s.vm := by rw [hA]; rfl
  have hhp : s'.heap = H := by rw [hA]; exact hT
  have hW0 : s.WarmedH s'.vm := by rw [hvm]; exact State.WarmedH.refl s
  have hat' : ∀ w ∈ vx_atS own ic cls names, w.before args s' = true := fun w hw => vx_ot_at hW0 hvm.symm (hgood w (List.mem_cons_of_mem _ (List.mem_cons_of_mem _ hw))) (hat w hw)
  have hk' : (Cond.classLink own ik cls).before args s' = true := vx_ot_at hW0 hvm.symm (hgood _ List.mem_cons_self) hk
  have hini' : (Cond.initialized cls).before args s' = true := vx_ot_at hW0 hvm.symm (hgood _ (List.mem_cons_of_mem _ List.mem_cons_self)) hini
  have hU' : vx_Zq Bundle.tN "UNASSIGNED_STACK" Bundle.steD A s' s'.heap := by rw [hhp]; exact vx_Zq.moved hW0.alike (hU.kept hS.2.1)
  have hN' : vx_Zq Bundle.tN "SUPPRESSED_SENTINEL" Bundle.listD A s' s'.heap := by rw [hhp]; exact vx_Zq.moved hW0.alike (hN.kept hS.2.1)
  have h : ∀ w ∈ Bundle.ownAtoms own ic cls names, w.before args s' = true := vx_own hat' (vx_isRefq hU'.1) (vx_isRefq hN'.1) hU'.2.word hN'.2.word
  have hown' : s'.vm.findClass own = some m.cls := by rw [hvm]; exact hown
  have hins : (Cond.instantiable cls 6).before args s' = true := h _ (by simp [Bundle.ownAtoms])
  obtain ⟨vm₁, cX, kX, hfX, hkX, -, -, X₁, st1⟩ := Y.newCold hexec (own := own) (C := cls) (index := ik) (n := 6) hown' hk' hins hini'
    (g := F0 m pc ls rest) rfl (by rw [hb]; exact d0) (Nat.le_refl _) (Nat.le_refl _)
  generalize hT1 : (T.setVm vm₁).pushCell { cls := cX, slots := kX.instanceTypes.map defaultValue, vm := .none } = T1 at X₁ st1
  have hcat : (Value.ref T.heap.size).category = 1 := rfl
  have hcellA : T1.heap[T.heap.size]? = some (freshCell cX kX) := by rw [← hT1]; exact State.heap_pushCell_size _ _
  have d3' : decode c.code (pc + 3) = .ok (.dup, 1) := by rw [hb]; exact d3
  have d4' : decode c.code (pc + 4) = .ok (.ldc_w is, 3) := by rw [hb]; exact d4
  have hstr' : vk_R own is text sa s' := vk_R.warm hW0 hstr
  obtain ⟨U, hsteps, hrun, hend, hW, hsame, ce, hce, hO⟩ := X₁.ctorThrowS hexec htr (own := own) (cls := cls) (names := names) (ic := ic) hown' hcls hnames h (fun x hx => nomatch hx) hfX hkX hcellA (by rw [hhp, hT]; exact Nat.le_refl _) (msg := .ref sa) rfl
    (g := { method := m, pc := pc + 7, locals := ls, stack := .ref sa :: .ref T.heap.size :: .ref T.heap.size :: rest, locked := none }) rfl hsize rfl rfl (rest := rest) rfl
    (by rw [hb]; exact d7) (by rw [hb]; exact d10) hout hRframes (by simp only [List.map_cons, List.sum_cons, hcat]; omega) hlocks
  obtain ⟨f1, f2⟩ := vx_frame hsame
  rw [hhp] at f1 f2
  have hWs : s.WarmedH U.vm := State.WarmedH.trans hW0 hW
  have hcl : s.vm.findClass cls = some ce.cls := by
    have h9 := hO.cls
    rw [hvm] at h9
    exact h9
  have hall : s.sameButNew ({ U with vm := s.vm } : State) locs mc ms := by
    subst hA
    obtain ⟨e1, e2⟩ := hsame
    rw [State.setFrames_setFrames] at e1
    have h2 : (T.setVm s.vm).sameButNew ({ U with vm := s.vm } : State) [] (0 + 1) (0 + 6) := ⟨e1, e2⟩
    have h3 := X.same.trans h2
    rw [List.append_nil] at h3
    exact h3.mono hc hs
  refine ⟨U, ?_, .threw T.heap.size, hrun, hend, Or.inr ⟨T.heap.size, rfl, cls, ce, locs, hx U hWs.alike f1 (fun q hq => f2 q hq (fun z hz => nomatch hz)), hce, hO.vm, hcl, hWs, hall, hf⟩⟩
  refine st1 _ ?_
  show Steps p.tables e below (T1.setTop { method := m, pc := pc + 3, locals := ls, stack := .ref T.heap.size :: rest, locked := none }) _
  jvm_step X₁.here [X₁.here.top, hexec, d3', Value.category]
  exact X₁.ldcStringW hexec (own := own) (text := text) (index := is) (a := sa) hown' hstr'.1 hstr'.2
    (g := { method := m, pc := pc + 4, locals := ls, stack := .ref T.heap.size :: .ref T.heap.size :: rest, locked := none }) rfl d4' _ hsteps
end Ends
section Bodies
variable {l : Launch}
theorem vx_ofW {y : MethodName} {ws ws' : List Cond} {rm : Room} {Pc : Array Value → State → Prop} {Qc : Array Value → State → Outcome → State → Prop} {XC : String → State → State → Prop} {mc ms : Nat} {free : Addr → Prop} {cc : ByteArray} {maxL : Nat} {ret : Option FieldType}
    (hy : plainName y.cls = true) (hw : ws = Cond.code y cc maxL ret :: ws')
    (body : ∀ p e s m args below meth c s₁, BodyLoose p l y (headSpec ws rm) cc maxL ret e s m args below meth c s₁ → c.maxLocals = maxL → (∀ x ∈ c.exceptionTable.toList, False) → Pc args s →
      W p l e (headSpec ws rm).room s m args below meth c s.heap [] 0 0 (vx_MQ below Qc XC args s mc ms free) (entryFrame m args maxL)) : vx_Met l y ws rm Pc Qc XC mc ms free := by
  refine MetFree.of_bodyS (code := cc) (maxLocals := maxL) (ret := ret) hy ?_ ?_
  · intro args s m h hn
    obtain ⟨meth, c, h1, h2, h3, h4, h5, h6, -, -⟩ := Cond.code_spec hn (atoms_spec (ws := ws) h _ (by rw [hw]; exact List.mem_cons_self))
    exact ⟨meth, c, h1, h2, h3, h4, h5, h6⟩
  · intro p e s m args below meth c s₁ B hml hP _
    have hh0 : s₁.heap = s.heap := by rw [B.state]; rfl
    have ht : ∀ x ∈ c.exceptionTable.toList, False := by
      obtain ⟨meth9, c9, h1, h2, -, -, -, -, h7, -⟩ := Cond.code_spec B.named (atoms_spec (ws := ws) B.pre _ (by rw [hw]; exact List.mem_cons_self))
      cases Option.some.inj (h1.symm.trans B.method)
      cases Option.some.inj (h2.symm.trans (Stand.of_body B).code)
      intro x hx
      rw [Array.isEmpty_iff.mp h7] at hx
      cases hx
    obtain ⟨t, a1, o, b1, b2, b3⟩ := body p e s m args below meth c s₁ B hml ht hP s₁ hh0 (Stand.of_body B)
    exact ⟨t, o, a1, b1, b2, b3⟩
/-- the table of a body with handlers -/
theorem vx_table {p : Program} {x y : MethodName} {S : Spec} {cc bytes : ByteArray} {maxL maxL' : Nat} {ret ret' : Option FieldType} {e : Env} {s s₁ : State} {m : MethodId} {args : Array Value} {below : List Frame} {meth : Method} {c : Code} {hh : List (Nat × Nat × Nat × Nat)}
    (B : BodyLoose p l y S cc maxL ret e s m args below meth c s₁) (h : (Cond.codeWith y bytes maxL' ret' hh).before args s = true) : c.exceptionTable.toList = tableOf hh := by
  obtain ⟨m9, meth9, c9, hn9, h1, h2, -, -, h6, -⟩ := Cond.codeWith_spec h
  cases Option.some.inj (hn9.symm.trans B.named)
  cases Option.some.inj (h1.symm.trans B.method)
  cases Option.some.inj (h2.symm.trans (Stand.of_body B).code)
  rw [← h6, table_eq]
end Bodies
end VXA
/-! ===== END ===== -/
/-! ===== BEGIN a static call of a method with an exception table ===== -/
section VXS
variable {p : Program} {l : Launch} {e : Env} {R : Room} {s : State} {m : MethodId} {args : Array Value} {below : List Frame} {meth : Method} {c : Code} {T : State} {H : Heap} {locs : List Loc} {cells slots : Nat}
abbrev vx_CSW (R : Room) (s : State) (args : Array Value) (own : String) (index : Nat) (y : MethodName) (bytes : ByteArray) (maxL : Nat) (ret : Option FieldType) (hh : List (Nat × Nat × Nat × Nat)) (ws : List Cond) (rm : Room) (mc ms n : Nat) : Prop :=
  (rm.cells = mc ∧ rm.slots = ms ∧ rm.frames + 1 ≤ R.frames ∧ 8 + (maxL + 11) + rm.locals ≤ R.locals ∧ (∀ w ∈ ws, ∀ (a' : Array Value) (U : State), s.WarmedH U.vm → w.before a' U = true) ∧ Cond.codeWith y bytes maxL ret hh ∈ ws) ∧
  (Cond.codeWith y bytes maxL ret hh).before args s = true ∧ (Cond.initialized y.cls).before args s = true ∧ (y.cls ≠ "java/lang/invoke/MethodHandle" ∧ y.cls ≠ "java/lang/invoke/VarHandle") ∧
  (∀ sig, parseMethodDescriptor y.desc = some sig → n = sig.parameters.length) ∧ (Cond.methodLink own index y).before args s = true ∧ (Cond.static y).before args s = true
theorem vx_cwSW {own : String} {index maxL mc ms : Nat} {y : MethodName} {bytes : ByteArray} {ret : Option FieldType} {hh : List (Nat × Nat × Nat × Nat)} {Ts ws ws' : List Cond} {rm : Room} (n : Nat) (ht : ∀ w ∈ Ts, w.before args s = true) (hT : GoodIn Ts (va_wsS own index y ws)) (hw : ws = Cond.codeWith y bytes maxL ret hh :: ws') (hrc : rm.cells = mc) (hrs : rm.slots = ms)
    (hd : y.cls ≠ "java/lang/invoke/MethodHandle" ∧ y.cls ≠ "java/lang/invoke/VarHandle" ∧ (parseMethodDescriptor y.desc).map (fun d => d.parameters.length) = some n) (hR : rm.frames + 1 ≤ R.frames ∧ 8 + (maxL + 11) + rm.locals ≤ R.locals) :
    vx_CSW R s args own index y bytes maxL ret hh ws rm mc ms n := by
  have ok : ∀ w ∈ va_wsS own index y ws, w.before args s = true := fun w h => ht w (hT w h).1
  have hG : GoodIn Ts ws := fun w h => hT w (by unfold va_wsS; exact List.mem_append_right _ h)
  have hc : Cond.codeWith y bytes maxL ret hh ∈ ws := by rw [hw]; exact List.mem_cons_self
  refine ⟨⟨hrc, hrs, hR.1, hR.2, pay_in ht hG, hc⟩, ht _ (hG _ hc).1, ok _ (by simp [va_wsS]), ⟨hd.1, hd.2.1⟩, fun sig h => ?_, ok _ (by simp [va_wsS]), ok _ (by simp [va_wsS])⟩
  have h2 := hd.2.2
  rw [h] at h2
  exact (Option.some.inj h2).symm
theorem vx_callSW (X : Stand p l e R s m args below meth c T locs cells slots) (hexec : p.tables.exec = Jvm.exec) {own : String} {index : Nat} {y : MethodName} {bytes : ByteArray} {maxL : Nat} {ret : Option FieldType} {hh : List (Nat × Nat × Nat × Nat)}
    (hown : s.vm.findClass own = some m.cls) (hlink : (Cond.methodLink own index y).before args s = true) (hstat : (Cond.static y).before args s = true) (hinit : (Cond.initialized y.cls).before args s = true)
    (hcode : (Cond.codeWith y bytes maxL ret hh).before args s = true) (hy : y.cls ≠ "java/lang/invoke/MethodHandle" ∧ y.cls ≠ "java/lang/invoke/VarHandle")
    {W9 : Nat} {Pre : Pt → Array Value → Prop} {Post : Pt → Array Value → Option Value → Pt → Prop} (hK : Back l R p e below s args y 3 W9 Pre Post)
    {g : JFrame} (hg : g.method = m) (hsize : g.locals.size = c.maxLocals) {argsL rest : List Value} (hlen : ∀ sig, parseMethodDescriptor y.desc = some sig → argsL.length = sig.parameters.length)
    (hstack : g.stack = argsL.reverse ++ rest) (hW : 2 * g.monitorRoom + (rest.map fun v => v.category).sum ≤ W9) (hdg : decode c.code g.pc = .ok (.invokestatic index, 3))
    (hpre : ∀ vm₁, s.WarmedH vm₁ → Pre ⟨T.setVm vm₁, locs, cells, slots⟩ argsL.toArray) :
    ∃ (v : Option Value) (vm₁ : Vm) (B : Pt), s.WarmedH vm₁ ∧ Stand p l e R s m args below meth c B.U B.locs B.cells B.slots ∧ Post ⟨T.setVm vm₁, locs, cells, slots⟩ argsL.toArray v B ∧
      ∀ target, Steps p.tables e below (B.U.setTop { g with pc := g.pc + 3, stack := v.toList ++ rest }) target → Steps p.tables e below (T.setTop g) target := by
  obtain ⟨mk, methM, cM, hnamed, hmethM, -, -, -, -, -, -, hsigM⟩ := Cond.codeWith_spec hcode
  have hstatic : methM.isStatic = true := Cond.static_spec hnamed hmethM hstat
  obtain ⟨kP, hkP, -⟩ := className_of_methodNamed hnamed
  have hinitP : kP.init = .initialized := Cond.initialized_spec (findClass_of_methodNamed hnamed) hkP hinit
  obtain ⟨vm₁, X₁, hstep₁⟩ := X.invokestatic hexec hown hlink hnamed hmethM hstatic hkP hinitP hy (g := g) hg (argsL := argsL) (rest := rest) (hlen _ hsigM) hstack hdg
  obtain ⟨v, B, X', hpost, hsteps⟩ := hK m meth c ⟨T.setVm vm₁, locs, cells, slots⟩ { g with stack := rest } (.invokestatic index) mk argsL.toArray X₁ hg hsize hdg hW (X₁.named hnamed) (hpre vm₁ X₁.warmed)
  exact ⟨v, vm₁, B, X₁.warmed, X', hpost, fun target h => hstep₁ _ fun acts => by rw [doInvoke_state]; exact hsteps.trans h⟩
theorem vx_runSW {y : MethodName} {bytes cc : ByteArray} {maxL nL mc ms n index : Nat} {ret : Option FieldType} {hh : List (Nat × Nat × Nat × Nat)} {ws : List Cond} {rm : Room} {Pc : Array Value → State → Prop} {Qc : Array Value → State → Outcome → State → Prop} {free : Addr → Prop} {Ts : List Cond} {own : String} {As rest : List Value} {g : JFrame}
    (S : CallFix p m c cc nL s args Ts own) (hM : Met l y ws rm Pc Qc mc ms free) (cw : vx_CSW R s args own index y bytes maxL ret hh ws rm mc ms n) (hp : PreS s H Pc As)
    (hg : g.method = m) (hn : As.length = n) (hsize : g.locals.size = nL) (hstack : g.stack = As.reverse ++ rest) (hW : 2 * g.monitorRoom + (rest.map fun v => v.category).sum ≤ 8) (hdg : decode cc g.pc = .ok (.invokestatic index, 3)) (hf : cells + mc ≤ R.cells ∧ slots + ms ≤ R.slots) :
    va_Run p l e R s m args below meth c H locs cells slots mc ms g rest (Qc As.toArray) (free) := by
  obtain ⟨⟨hrc, hrs, hfr, hlo, hws, hcw⟩, hcode, hini, hy, hlen, hl, hstt⟩ := cw
  have hK : Back l R p e below s args y 3 8 (PreOf R mc ms Pc) (PostOf Qc mc ms free) := va_backW (hh := hh) (bytes := bytes) (maxL := maxL) (ret := ret) hM hp.1 hrc hrs hfr hlo hws hcw (fun a' U hW => word_at hW (Or.inl (by first | rfl | simp [Cond.onTables, Cond.keeps, Cond.steady])) hini)
  obtain ⟨hx, hb, hml, ho, -⟩ := S
  intro T hT X
  obtain ⟨v, vm₁, ⟨U', l2, c2, s2⟩, hW₁, X', ⟨g', mk, t, L, e1, e2, hq, h1, hL, h2, h3⟩, st⟩ := vx_callSW X hx (hh := hh) (bytes := bytes) (maxL := maxL) (ret := ret) ho hl hstt hini hcode hy hK hg (hsize.trans hml.symm) (argsL := As) (rest := rest) (fun sig h => hn.trans (hlen sig h)) hstack hW (by rw [hb]; exact hdg)
    (fun vm₁ hW₁ => ⟨hf.1, hf.2, hp.2 (T.setVm vm₁) hT hW₁⟩)
  dsimp only [Pt.U, Pt.locs, Pt.cells, Pt.slots] at X' e1 e2 h1 h2 h3 st
  subst h1; subst h2; subst h3
  exact ⟨v, (T.setVm vm₁).calling g' mk As.toArray, t, U', L, hT, X', hL, e1, e2, hq, st⟩
/-- not caught here, past rows that name other classes: it goes on to the caller -/
theorem vx_outP {p : Program} {l : Launch} {e : Env} {R : Room} {s : State} {m : MethodId} {args : Array Value} {below : List Frame} {meth : Method} {c : Code} {H : Heap} {locs : List Loc} {cells slots : Nat} {free : Addr → Prop} {ls : Array Slot} {rest : List Value} {Qc : Array Value → State → Outcome → State → Prop} {XC : String → State → State → Prop}
    {pc : Nat} {own E : String} {ce : Cell} {q : Addr} {mc ms : Nat} (hown : s.vm.findClass own = some m.cls) (hlocks : meth.locks = false)
    (hpass : ∀ z ∈ c.exceptionTable.toList, covers z pc = false ∨ (z.catchType ≠ 0 ∧ ∃ nm : String, (Cond.classLink own z.catchType nm).before args s = true ∧ va_Nc E nm s)) (hcell : H[q]? = some ce) (hv : ce.vm = .none) (hcl : s.vm.findClass E = some ce.cls)
    (hx : ∀ t : State, t.heap = H → s.vm.Alike t.vm → XC E s t) (hf : ∀ z ∈ locs, free z.base) (hc : cells ≤ mc) (hs : slots ≤ ms) :
    vx_W p l e R s m args below meth c H locs cells slots (vx_MQ below Qc XC args s mc ms free) (F0 m pc ls rest) q := by
  intro T hT X
  have hpl : e.platform.magicAccessors = ({} : Platform).magicAccessors := by rw [X.admits.platform]
  obtain ⟨vm', hW', X', st⟩ := X.outThrough hlocks q (g := F0 m pc ls rest) rfl rfl rfl (cell := ce) (by rw [hT]; exact hcell) (by rw [hv]; rfl)
    (by obtain ⟨k9, h9, -⟩ := Vm.findClass_spec hcl; exact ⟨k9, h9⟩) (fun z hz => by
      rcases hpass z hz with h | ⟨hz0, nm, hl1, hn1⟩
      · exact Or.inl h
      · obtain ⟨c6, hc6, hcl6⟩ := Cond.classLink_spec hown hl1 e.platform hpl
        obtain ⟨a8, b8, h1, h2, h3⟩ := hn1
        cases Option.some.inj (h1.symm.trans hcl)
        cases Option.some.inj (h2.symm.trans hc6)
        exact Or.inr ⟨hz0, _, hcl6, h3⟩)
  obtain ⟨g₀, hfr⟩ := X'.frames_eq
  have hcell9 : ((T.setVm vm').setFrames (.throwing q :: below)).heap[q]? = some ce := by
    show T.heap[q]? = some ce
    rw [hT]; exact hcell
  have hend : Ended ((T.setVm vm').setFrames (.throwing q :: below)) below (.threw q) := State.frames_setFrames _ (State.cur_lt_of_frames hfr)
  refine ⟨(T.setVm vm').setFrames (.throwing q :: below), ?_, .threw q, X'.here.running, hend, Or.inr ⟨q, rfl, E, ce, locs, hx _ hT (X'.ends _).1.alike, hcell9, hv, hcl, (X'.ends _).1, (X'.ends _).2.mono hc hs, hf⟩⟩
  rw [X.pushThrowing_eq]
  exact st
/-- a thing of a world lies in the heap -/
theorem vx_lt {D : va_G} {cl : List vw_C} {ws : va_W} {H1 : Heap} (h : va_P D cl ws H1) {k : Nat} {q : Nat × va_E} (hk : ws[k]? = some q) : q.1 < H1.size := (h k q hk).lt
end VXS
/-! ===== END ===== -/
/-! ===== BEGIN methods with a table of their own: called by a name, returning or throwing ===== -/
section VXH
/-! vx_backW, vx_callVX, vx_callSX, vx_callVW, vx_runVW, vx_runVX, vx_runSX, vx_ofWH follow the same proofs as their sisters above (Free/Laws.lean, Shelf42/LK1.lean); vx_outP calls Shelf42/NT130.lean (outThrough). -/
section
variable {l : Launch} {R : Room} {p : Program} {e : Env} {below : List Frame} {s : State} {sargs : Array Value} {y : MethodName} {len W9 : Nat}
theorem vx_backW {ws : List Cond} {rm : Room} {Pc : Array Value → State → Prop} {Qc : Array Value → State → Outcome → State → Prop} {XC : String → State → State → Prop} {mc ms : Nat} {free : Addr → Prop} {bytes : ByteArray} {maxL : Nat} {ret : Option FieldType} {hh : List (Nat × Nat × Nat × Nat)}
    (hM : vx_Met l y ws rm Pc Qc XC mc ms free) (hblind : FrameBlind Pc) (hrc : rm.cells = mc) (hrs : rm.slots = ms)
    (hframes : rm.frames + 1 ≤ R.frames) (hlocals : W9 + (maxL + 11) + rm.locals ≤ R.locals)
    (hws : ∀ w ∈ ws, ∀ a' U, s.WarmedH U.vm → w.before a' U = true) (hcode : Cond.codeWith y bytes maxL ret hh ∈ ws) (hinit : ∀ a' U, s.WarmedH U.vm → (Cond.initialized y.cls).before a' U = true) :
    vx_Back l R p e below s sargs y len W9 (PreOf R mc ms Pc) (PostOf Qc mc ms free) (vx_Post XC mc ms free) := by
  intro m meth c A g ig mk a X hg hsize hdg hW hn hp
  have h1 : (headSpec ws rm).pre.before a A.U = true := atoms_intro fun w hw => hws w hw _ _ X.warmed
  have h2 : (Cond.codeWith y bytes maxL ret hh).before a A.U = true := hws _ hcode _ _ X.warmed
  have h3 : (Cond.initialized y.cls).before a A.U = true := hinit _ _ X.warmed
  have h4 : A.cells + (headSpec ws rm).room.cells ≤ R.cells := by rw [show (headSpec ws rm).room.cells = mc from hrc]; exact hp.1
  have h5 : A.slots + (headSpec ws rm).room.slots ≤ R.slots := by rw [show (headSpec ws rm).room.slots = ms from hrs]; exact hp.2.1
  have hPc : Pc a (A.U.calling g mk a) := hblind _ _ _ _ hp.2.2
  obtain ⟨U, Ls, c0, s0⟩ := A
  dsimp only [Pt.U, Pt.locs, Pt.cells, Pt.slots] at h1 h2 h3 h4 h5 X hn hPc ⊢
  obtain ⟨m9, methY, cY, hn9, hmY, hcY, -, hlY, -⟩ := Cond.codeWith_spec h2
  cases Option.some.inj (hn9.symm.trans hn)
  obtain ⟨kY, hkY, -⟩ := className_of_methodNamed hn
  have hinitY : kY.init = .initialized := Cond.initialized_spec (findClass_of_methodNamed hn) hkY h3
  have h : At U g.method c below := by rw [hg]; exact X.here
  have hlocals9 : W9 + (maxL + 11) + (headSpec ws rm).room.locals ≤ R.locals := hlocals
  have happ : (headSpec ws rm).appliesLoose y e.platform (U.calling g mk a) = true :=
    Spec.appliesLoose_calling (g := g) h hdg hn hkY hinitY
      (X.room_calling (g := g) (R' := (headSpec ws rm).room) hsize hmY hcY hframes (by rw [hlY]; omega) h4 h5) h1
  obtain ⟨mid, hmid⟩ := h.above
  have hfr : (U.setTop g).frames = (.java g :: mid) ++ below := by rw [State.frames_setTop' g h.top, hmid]; rfl
  obtain ⟨o, s₂, hsteps, -, hend, hq⟩ := Steps.callFree hM p X.admits X.cas X.clock (acts := []) hfr happ hPc trivial
  have hq' : vx_Q Qc XC mc ms free a (U.calling g mk a) o s₂ := hq
  rw [State.frames_setTop' g h.top] at hend
  obtain ⟨g₀, hg0⟩ := Option.isSome_iff_exists.mp h.top
  obtain ⟨r, hr⟩ := State.topJava?_eq_some.mp hg0
  have hr' : (({ U with heap := s₂.heap, slotsUsed := s₂.slotsUsed } : State).setVm s₂.vm).frames = .java g₀ :: r := hr
  rcases hq' with ⟨hqc, L, hfe, hL⟩ | ⟨q, rfl, E, ce, L, hx, hce, hcv, hcl, hW₂, hsm, hL⟩
  · obtain ⟨⟨v, rfl⟩, hW₂, e2, q2, q3, q4, q5, q6⟩ := id hfe
    have e3 : s₂ = ({ (U.calling g mk a).setFrames s₂.frames with heap := s₂.heap, slotsUsed := s₂.slotsUsed } : State).setVm s₂.vm := by
      have : s₂ = ({ s₂ with vm := (U.calling g mk a).vm } : State).setVm s₂.vm := rfl
      rw [e2] at this
      exact this
    obtain ⟨c₂, i₂, len₂, hc₂, hd₂, hf₂⟩ := hend
    have hW' : U.WarmedH s₂.vm := hW₂
    have hcc : c₂ = c := by
      have h1 : s₂.code? g.method = U.code? g.method := by
        rw [State.code?_eq, State.code?_eq, hW'.alike.method?]
      exact Option.some.inj (hc₂.symm.trans (h1.trans h.code))
    subst hcc
    have hlen : len₂ = len := by rw [hdg] at hd₂; cases hd₂; rfl
    subst hlen
    have hs₂ : s₂ = (({ U with heap := s₂.heap, slotsUsed := s₂.slotsUsed } : State).setVm s₂.vm).setTop { g with pc := g.pc + len₂, stack := v.toList ++ g.stack } := by
      refine e3.trans ?_
      rw [hf₂, State.calling_eq h.top, State.setFrames_setFrames, State.setTop_of_frames _ hr', hr]
      rfl
    have hsame : U.sameButNew ({ U with heap := s₂.heap, slotsUsed := s₂.slotsUsed } : State) L mc ms := by
      refine ⟨?_, q2, q3, q4, q5, q6⟩
      obtain ⟨t, ht, -⟩ := State.frames_cons hr
      show ({ U with heap := s₂.heap, slotsUsed := s₂.slotsUsed } : State) = { U.setFrames U.frames with heap := s₂.heap, slotsUsed := s₂.slotsUsed }
      rw [State.setFrames_self ht]
    subst hg
    refine Or.inl ⟨v, ⟨(({ U with heap := s₂.heap, slotsUsed := s₂.slotsUsed } : State).setVm s₂.vm), Ls ++ L, c0 + mc, s0 + ms⟩,
      ⟨X.admits, X.cas, X.clock, X.frames, X.room, X.hears, X.method, X.code, (X.here.setHeapUsed s₂.heap s₂.slotsUsed).setVm hW'.alike, X.tail, State.WarmedH.trans X.warmed hW', X.limits, X.bytes, X.same.trans (hsame.setVm s.vm)⟩,
      ⟨g, mk, s₂, L, rfl, rfl, hqc, rfl, hL, rfl, rfl⟩, ?_⟩
    show Steps p.tables e below _ ((({ U with heap := s₂.heap, slotsUsed := s₂.slotsUsed } : State).setVm s₂.vm).setTop { g with pc := g.pc + len₂, stack := v.toList ++ g.stack })
    rw [← hs₂]
    exact hsteps
  · obtain ⟨e2, q2, q3, q4, q5, q6⟩ := id hsm
    have e3 : s₂ = ({ (U.calling g mk a).setFrames s₂.frames with heap := s₂.heap, slotsUsed := s₂.slotsUsed } : State).setVm s₂.vm := by
      have : s₂ = ({ s₂ with vm := (U.calling g mk a).vm } : State).setVm s₂.vm := rfl
      rw [e2] at this
      exact this
    have hf₂ : s₂.frames = .throwing q :: .java g :: U.frames.tail := hend
    have hW' : U.WarmedH s₂.vm := hW₂
    have hs₂ : s₂ = ((({ U with heap := s₂.heap, slotsUsed := s₂.slotsUsed } : State).setVm s₂.vm).setTop g).pushFrame (.throwing q) := by
      refine e3.trans ?_
      rw [hf₂, State.calling_eq h.top, State.setFrames_setFrames, State.pushFrame, State.frames_setTop _ hr', State.setTop_of_frames _ hr', State.setFrames_setFrames, hr]
      rfl
    have hsame : U.sameButNew ({ U with heap := s₂.heap, slotsUsed := s₂.slotsUsed } : State) L mc ms := by
      refine ⟨?_, q2, q3, q4, q5, q6⟩
      obtain ⟨t, ht, -⟩ := State.frames_cons hr
      show ({ U with heap := s₂.heap, slotsUsed := s₂.slotsUsed } : State) = { U.setFrames U.frames with heap := s₂.heap, slotsUsed := s₂.slotsUsed }
      rw [State.setFrames_self ht]
    subst hg
    refine Or.inr ⟨q, ⟨(({ U with heap := s₂.heap, slotsUsed := s₂.slotsUsed } : State).setVm s₂.vm), Ls ++ L, c0 + mc, s0 + ms⟩,
      ⟨X.admits, X.cas, X.clock, X.frames, X.room, X.hears, X.method, X.code, (X.here.setHeapUsed s₂.heap s₂.slotsUsed).setVm hW'.alike, X.tail, State.WarmedH.trans X.warmed hW', X.limits, X.bytes, X.same.trans (hsame.setVm s.vm)⟩,
      ⟨g, mk, s₂, L, E, ce, rfl, rfl, hx, hce, hcv, hcl, rfl, hL, rfl, rfl⟩, ?_⟩
    show Steps p.tables e below _ (((({ U with heap := s₂.heap, slotsUsed := s₂.slotsUsed } : State).setVm s₂.vm).setTop g).pushFrame (.throwing q))
    rw [← hs₂]
    exact hsteps
end
variable {p : Program} {l : Launch} {e : Env} {R : Room} {s : State} {m : MethodId} {args : Array Value} {below : List Frame} {meth : Method} {c : Code} {T : State} {H : Heap} {locs : List Loc} {cells slots : Nat}
theorem vx_callVX (X : Stand p l e R s m args below meth c T locs cells slots) (hexec : p.tables.exec = Jvm.exec) {own C : String} {index : Nat} {y : MethodName} {bytes : ByteArray} {maxL : Nat} {ret : Option FieldType} {hh : List (Nat × Nat × Nat × Nat)}
    (hown : s.vm.findClass own = some m.cls) (hlink : (Cond.methodLink own index y).before args s = true) (hinst : (Cond.instanceMethod y).before args s = true) (hsel : (Cond.selects C y y).before args s = true)
    (hcode : (Cond.codeWith y bytes maxL ret hh).before args s = true) (hy : y.cls ≠ "java/lang/invoke/MethodHandle" ∧ y.cls ≠ "java/lang/invoke/VarHandle")
    {W9 : Nat} {Pre : Pt → Array Value → Prop} {Post : Pt → Array Value → Option Value → Pt → Prop} {PostX : Pt → Array Value → Addr → Pt → Prop} (hK : vx_Back l R p e below s args y 3 W9 Pre Post PostX)
    {b : Addr} {cellB : Cell} (hcell : T.heap[b]? = some cellB) (hobj : cellB.vm.isStatics = false) (hcls : s.vm.findClass C = some cellB.cls)
    {g : JFrame} (hg : g.method = m) (hsize : g.locals.size = c.maxLocals) {argsL rest : List Value} (hlen : ∀ sig, parseMethodDescriptor y.desc = some sig → argsL.length = sig.parameters.length)
    (hstack : g.stack = argsL.reverse ++ .ref b :: rest) (hW : 2 * g.monitorRoom + (rest.map fun v => v.category).sum ≤ W9) (hdg : decode c.code g.pc = .ok (.invokevirtual index, 3))
    (hpre : ∀ vm₁, s.WarmedH vm₁ → Pre ⟨T.setVm vm₁, locs, cells, slots⟩ (Value.ref b :: argsL).toArray) :
    (∃ (v : Option Value) (vm₁ : Vm) (B : Pt), s.WarmedH vm₁ ∧ Stand p l e R s m args below meth c B.U B.locs B.cells B.slots ∧ Post ⟨T.setVm vm₁, locs, cells, slots⟩ (Value.ref b :: argsL).toArray v B ∧
      ∀ target, Steps p.tables e below (B.U.setTop { g with pc := g.pc + 3, stack := v.toList ++ rest }) target → Steps p.tables e below (T.setTop g) target) ∨
    (∃ (q : Addr) (vm₁ : Vm) (B : Pt), s.WarmedH vm₁ ∧ Stand p l e R s m args below meth c B.U B.locs B.cells B.slots ∧ PostX ⟨T.setVm vm₁, locs, cells, slots⟩ (Value.ref b :: argsL).toArray q B ∧
      Steps p.tables e below (T.setTop g) ((B.U.setTop { g with stack := rest }).pushFrame (.throwing q))) := by
  obtain ⟨mk, methM, hnamed, hmethM, hstM, habM⟩ := Cond.instanceMethod_spec hinst
  obtain ⟨m8, methM', cM, hn8, hmethM', -, -, -, -, -, -, hsigM⟩ := Cond.codeWith_spec hcode
  cases Option.some.inj (hn8.symm.trans hnamed)
  cases hmethM.symm.trans hmethM'
  obtain ⟨c2, r2, m2, q1, q2, q3, q4, kP, hkP, hkPi⟩ := Cond.selects_spec hsel
  cases hcls.symm.trans q1
  cases (State.methodFound?_of_named hnamed hy).symm.trans q2
  cases hnamed.symm.trans q3
  have hselP : selectMethod e.platform s.vm cellB.cls mk = .method mk := by rw [Launch.admits_selectMethod X.admits]; exact q4
  obtain ⟨vm₁, X₁, hstep₁⟩ := X.invokevirtual hexec hown hlink hnamed hmethM hstM hkP hkPi hy (a := b) (cell := cellB) hcell
    (fun z h => by rw [h] at hobj; cases hobj) hselP hmethM habM hkP hkPi (g := g) hg (argsL := argsL) (rest := rest) (hlen _ hsigM) hstack hdg
  rcases hK m meth c ⟨T.setVm vm₁, locs, cells, slots⟩ { g with stack := rest } (.invokevirtual index) mk (Value.ref b :: argsL).toArray X₁ hg hsize hdg hW (X₁.named hnamed) (hpre vm₁ X₁.warmed) with ⟨v, B, X', hpost, hsteps⟩ | ⟨q, B, X', hpost, hsteps⟩
  · exact Or.inl ⟨v, vm₁, B, X₁.warmed, X', hpost, fun target h => hstep₁ _ fun acts => by rw [doInvoke_state]; exact hsteps.trans h⟩
  · exact Or.inr ⟨q, vm₁, B, X₁.warmed, X', hpost, hstep₁ _ fun acts => by rw [doInvoke_state]; exact hsteps⟩
theorem vx_callSX (X : Stand p l e R s m args below meth c T locs cells slots) (hexec : p.tables.exec = Jvm.exec) {own : String} {index : Nat} {y : MethodName} {bytes : ByteArray} {maxL : Nat} {ret : Option FieldType} {hh : List (Nat × Nat × Nat × Nat)}
    (hown : s.vm.findClass own = some m.cls) (hlink : (Cond.methodLink own index y).before args s = true) (hstat : (Cond.static y).before args s = true) (hinit : (Cond.initialized y.cls).before args s = true)
    (hcode : (Cond.codeWith y bytes maxL ret hh).before args s = true) (hy : y.cls ≠ "java/lang/invoke/MethodHandle" ∧ y.cls ≠ "java/lang/invoke/VarHandle")
    {W9 : Nat} {Pre : Pt → Array Value → Prop} {Post : Pt → Array Value → Option Value → Pt → Prop} {PostX : Pt → Array Value → Addr → Pt → Prop} (hK : vx_Back l R p e below s args y 3 W9 Pre Post PostX)
    {g : JFrame} (hg : g.method = m) (hsize : g.locals.size = c.maxLocals) {argsL rest : List Value} (hlen : ∀ sig, parseMethodDescriptor y.desc = some sig → argsL.length = sig.parameters.length)
    (hstack : g.stack = argsL.reverse ++ rest) (hW : 2 * g.monitorRoom + (rest.map fun v => v.category).sum ≤ W9) (hdg : decode c.code g.pc = .ok (.invokestatic index, 3))
    (hpre : ∀ vm₁, s.WarmedH vm₁ → Pre ⟨T.setVm vm₁, locs, cells, slots⟩ argsL.toArray) :
    (∃ (v : Option Value) (vm₁ : Vm) (B : Pt), s.WarmedH vm₁ ∧ Stand p l e R s m args below meth c B.U B.locs B.cells B.slots ∧ Post ⟨T.setVm vm₁, locs, cells, slots⟩ argsL.toArray v B ∧
      ∀ target, Steps p.tables e below (B.U.setTop { g with pc := g.pc + 3, stack := v.toList ++ rest }) target → Steps p.tables e below (T.setTop g) target) ∨
    (∃ (q : Addr) (vm₁ : Vm) (B : Pt), s.WarmedH vm₁ ∧ Stand p l e R s m args below meth c B.U B.locs B.cells B.slots ∧ PostX ⟨T.setVm vm₁, locs, cells, slots⟩ argsL.toArray q B ∧
      Steps p.tables e below (T.setTop g) ((B.U.setTop { g with stack := rest }).pushFrame (.throwing q))) := by
  obtain ⟨mk, methM, cM, hnamed, hmethM, -, -, -, -, -, -, hsigM⟩ := Cond.codeWith_spec hcode
  have hstatic : methM.isStatic = true := Cond.static_spec hnamed hmethM hstat
  obtain ⟨kP, hkP, -⟩ := className_of_methodNamed hnamed
  have hinitP : kP.init = .initialized := Cond.initialized_spec (findClass_of_methodNamed hnamed) hkP hinit
  obtain ⟨vm₁, X₁, hstep₁⟩ := X.invokestatic hexec hown hlink hnamed hmethM hstatic hkP hinitP hy (g := g) hg (argsL := argsL) (rest := rest) (hlen _ hsigM) hstack hdg
  rcases hK m meth c ⟨T.setVm vm₁, locs, cells, slots⟩ { g with stack := rest } (.invokestatic index) mk argsL.toArray X₁ hg hsize hdg hW (X₁.named hnamed) (hpre vm₁ X₁.warmed) with ⟨v, B, X', hpost, hsteps⟩ | ⟨q, B, X', hpost, hsteps⟩
  · exact Or.inl ⟨v, vm₁, B, X₁.warmed, X', hpost, fun target h => hstep₁ _ fun acts => by rw [doInvoke_state]; exact hsteps.trans h⟩
  · exact Or.inr ⟨q, vm₁, B, X₁.warmed, X', hpost, hstep₁ _ fun acts => by rw [doInvoke_state]; exact hsteps⟩
theorem vx_callVW (X : Stand p l e R s m args below meth c T locs cells slots) (hexec : p.tables.exec = Jvm.exec) {own C : String} {index : Nat} {y : MethodName} {bytes : ByteArray} {maxL : Nat} {ret : Option FieldType} {hh : List (Nat × Nat × Nat × Nat)}
    (hown : s.vm.findClass own = some m.cls) (hlink : (Cond.methodLink own index y).before args s = true) (hinst : (Cond.instanceMethod y).before args s = true) (hsel : (Cond.selects C y y).before args s = true)
    (hcode : (Cond.codeWith y bytes maxL ret hh).before args s = true) (hy : y.cls ≠ "java/lang/invoke/MethodHandle" ∧ y.cls ≠ "java/lang/invoke/VarHandle")
    {W9 : Nat} {Pre : Pt → Array Value → Prop} {Post : Pt → Array Value → Option Value → Pt → Prop} (hK : Back l R p e below s args y 3 W9 Pre Post)
    {b : Addr} {cellB : Cell} (hcell : T.heap[b]? = some cellB) (hobj : cellB.vm.isStatics = false) (hcls : s.vm.findClass C = some cellB.cls)
    {g : JFrame} (hg : g.method = m) (hsize : g.locals.size = c.maxLocals) {argsL rest : List Value} (hlen : ∀ sig, parseMethodDescriptor y.desc = some sig → argsL.length = sig.parameters.length)
    (hstack : g.stack = argsL.reverse ++ .ref b :: rest) (hW : 2 * g.monitorRoom + (rest.map fun v => v.category).sum ≤ W9) (hdg : decode c.code g.pc = .ok (.invokevirtual index, 3))
    (hpre : ∀ vm₁, s.WarmedH vm₁ → Pre ⟨T.setVm vm₁, locs, cells, slots⟩ (Value.ref b :: argsL).toArray) :
    ∃ (v : Option Value) (vm₁ : Vm) (B : Pt), s.WarmedH vm₁ ∧ Stand p l e R s m args below meth c B.U B.locs B.cells B.slots ∧ Post ⟨T.setVm vm₁, locs, cells, slots⟩ (Value.ref b :: argsL).toArray v B ∧
      ∀ target, Steps p.tables e below (B.U.setTop { g with pc := g.pc + 3, stack := v.toList ++ rest }) target → Steps p.tables e below (T.setTop g) target := by
  obtain ⟨mk, methM, hnamed, hmethM, hstM, habM⟩ := Cond.instanceMethod_spec hinst
  obtain ⟨m8, methM', cM, hn8, hmethM', -, -, -, -, -, -, hsigM⟩ := Cond.codeWith_spec hcode
  cases Option.some.inj (hn8.symm.trans hnamed)
  cases hmethM.symm.trans hmethM'
  obtain ⟨c2, r2, m2, q1, q2, q3, q4, kP, hkP, hkPi⟩ := Cond.selects_spec hsel
  cases hcls.symm.trans q1
  cases (State.methodFound?_of_named hnamed hy).symm.trans q2
  cases hnamed.symm.trans q3
  have hselP : selectMethod e.platform s.vm cellB.cls mk = .method mk := by rw [Launch.admits_selectMethod X.admits]; exact q4
  obtain ⟨vm₁, X₁, hstep₁⟩ := X.invokevirtual hexec hown hlink hnamed hmethM hstM hkP hkPi hy (a := b) (cell := cellB) hcell
    (fun z h => by rw [h] at hobj; cases hobj) hselP hmethM habM hkP hkPi (g := g) hg (argsL := argsL) (rest := rest) (hlen _ hsigM) hstack hdg
  obtain ⟨v, B, X', hpost, hsteps⟩ := hK m meth c ⟨T.setVm vm₁, locs, cells, slots⟩ { g with stack := rest } (.invokevirtual index) mk (Value.ref b :: argsL).toArray X₁ hg hsize hdg hW (X₁.named hnamed) (hpre vm₁ X₁.warmed)
  exact ⟨v, vm₁, B, X₁.warmed, X', hpost, fun target h => hstep₁ _ fun acts => by rw [doInvoke_state]; exact hsteps.trans h⟩
abbrev vx_CVW (R : Room) (s : State) (args : Array Value) (own C : String) (index : Nat) (y : MethodName) (bytes : ByteArray) (maxL : Nat) (ret : Option FieldType) (hh : List (Nat × Nat × Nat × Nat)) (ws : List Cond) (rm : Room) (mc ms n : Nat) : Prop :=
  (rm.cells = mc ∧ rm.slots = ms ∧ rm.frames + 1 ≤ R.frames ∧ 8 + (maxL + 11) + rm.locals ≤ R.locals ∧ (∀ w ∈ ws, ∀ (a' : Array Value) (U : State), s.WarmedH U.vm → w.before a' U = true) ∧ Cond.codeWith y bytes maxL ret hh ∈ ws) ∧
  (Cond.codeWith y bytes maxL ret hh).before args s = true ∧ (Cond.initialized y.cls).before args s = true ∧ (y.cls ≠ "java/lang/invoke/MethodHandle" ∧ y.cls ≠ "java/lang/invoke/VarHandle") ∧
  (∀ sig, parseMethodDescriptor y.desc = some sig → n = sig.parameters.length) ∧ (Cond.methodLink own index y).before args s = true ∧ (Cond.instanceMethod y).before args s = true ∧ (Cond.selects C y y).before args s = true
theorem vx_cwVW {own C : String} {index maxL mc ms : Nat} {y : MethodName} {bytes : ByteArray} {ret : Option FieldType} {hh : List (Nat × Nat × Nat × Nat)} {Ts ws ws' : List Cond} {rm : Room} (n : Nat) (ht : ∀ w ∈ Ts, w.before args s = true) (hT : GoodIn Ts (wsV own index C y ws)) (hw : ws = Cond.codeWith y bytes maxL ret hh :: ws') (hrc : rm.cells = mc) (hrs : rm.slots = ms)
    (hd : y.cls = C ∧ y.cls ≠ "java/lang/invoke/MethodHandle" ∧ y.cls ≠ "java/lang/invoke/VarHandle" ∧ (parseMethodDescriptor y.desc).map (fun d => d.parameters.length) = some n) (hR : rm.frames + 1 ≤ R.frames ∧ 8 + (maxL + 11) + rm.locals ≤ R.locals) :
    vx_CVW R s args own C index y bytes maxL ret hh ws rm mc ms n := by
  obtain ⟨hC, hd⟩ := hd
  subst hC
  have ok : ∀ w ∈ wsV own index y.cls y ws, w.before args s = true := fun w h => ht w (hT w h).1
  have hG : GoodIn Ts ws := fun w h => hT w (by unfold wsV; exact List.mem_append_right _ h)
  have hc : Cond.codeWith y bytes maxL ret hh ∈ ws := by rw [hw]; exact List.mem_cons_self
  refine ⟨⟨hrc, hrs, hR.1, hR.2, pay_in ht hG, hc⟩, ht _ (hG _ hc).1, ok _ (by simp [wsV]), ⟨hd.1, hd.2.1⟩, fun sig h => ?_, ok _ (by simp [wsV]), ok _ (by simp [wsV]), ok _ (by simp [wsV])⟩
  have h2 := hd.2.2
  rw [h] at h2
  exact (Option.some.inj h2).symm
theorem vx_runVW {y : MethodName} {bytes cc : ByteArray} {maxL nL mc ms n index : Nat} {ret : Option FieldType} {hh : List (Nat × Nat × Nat × Nat)} {ws : List Cond} {rm : Room} {Pc : Array Value → State → Prop} {Qc : Array Value → State → Outcome → State → Prop} {free : Addr → Prop} {Ts : List Cond} {own C : String} {b : Addr} {As rest : List Value} {g : JFrame}
    (S : CallFix p m c cc nL s args Ts own) (hM : Met l y ws rm Pc Qc mc ms free) (cw : vx_CVW R s args own C index y bytes maxL ret hh ws rm mc ms n) (hp : PreV s H C b Pc As)
    (hg : g.method = m) (hn : As.length = n) (hsize : g.locals.size = nL) (hstack : g.stack = As.reverse ++ .ref b :: rest) (hW : 2 * g.monitorRoom + (rest.map fun v => v.category).sum ≤ 8) (hdg : decode cc g.pc = .ok (.invokevirtual index, 3)) (hf : cells + mc ≤ R.cells ∧ slots + ms ≤ R.slots) :
    va_Run p l e R s m args below meth c H locs cells slots mc ms g rest (Qc (Value.ref b :: As).toArray) free := by
  obtain ⟨⟨hrc, hrs, hfr, hlo, hws, hcw⟩, hcode, hini, hy, hlen, hl, hin, hse⟩ := cw
  have hK : Back l R p e below s args y 3 8 (PreOf R mc ms Pc) (PostOf Qc mc ms free) := va_backW (hh := hh) (bytes := bytes) (maxL := maxL) (ret := ret) hM hp.1 hrc hrs hfr hlo hws hcw (fun a' U hW => word_at hW (Or.inl (by first | rfl | simp [Cond.onTables, Cond.keeps, Cond.steady])) hini)
  obtain ⟨hx, hb, hml, ho, -⟩ := S
  obtain ⟨-, ⟨cellB, hcB, hoB, hclB⟩, hPc⟩ := hp
  intro T hT X
  obtain ⟨v, vm₁, ⟨U', l2, c2, s2⟩, hW₁, X', ⟨g', mk, t, L, e1, e2, hq, h1, hL, h2, h3⟩, st⟩ := vx_callVW X hx (C := C) (hh := hh) (bytes := bytes) (maxL := maxL) (ret := ret) ho hl hin hse hcode hy hK (by rw [hT]; exact hcB) hoB hclB hg (hsize.trans hml.symm) (argsL := As) (rest := rest) (fun sig h => hn.trans (hlen sig h)) hstack hW (by rw [hb]; exact hdg)
    (fun vm₁ hW₁ => ⟨hf.1, hf.2, hPc (T.setVm vm₁) hT hW₁⟩)
  dsimp only [Pt.U, Pt.locs, Pt.cells, Pt.slots] at X' e1 e2 h1 h2 h3 st
  subst h1; subst h2; subst h3
  exact ⟨v, (T.setVm vm₁).calling g' mk (Value.ref b :: As).toArray, t, U', L, hT, X', hL, e1, e2, hq, st⟩
section
variable {y : MethodName} {bytes cc : ByteArray} {maxL nL mc ms n index : Nat} {ret : Option FieldType} {ws : List Cond} {rm : Room} {Pc : Array Value → State → Prop} {Qc : Array Value → State → Outcome → State → Prop} {XC : String → State → State → Prop} {free : Addr → Prop} {Ts : List Cond} {own C : String} {b : Addr} {As rest : List Value} {g : JFrame}
theorem vx_runVX {hh : List (Nat × Nat × Nat × Nat)} (S : CallFix p m c cc nL s args Ts own) (hM : vx_Met l y ws rm Pc Qc XC mc ms free) (cw : vx_CVW R s args own C index y bytes maxL ret hh ws rm mc ms n) (hp : PreV s H C b Pc As)
    (hg : g.method = m) (hn : As.length = n) (hsize : g.locals.size = nL) (hstack : g.stack = As.reverse ++ .ref b :: rest) (hW : 2 * g.monitorRoom + (rest.map fun v => v.category).sum ≤ 8) (hdg : decode cc g.pc = .ok (.invokevirtual index, 3)) (hf : cells + mc ≤ R.cells ∧ slots + ms ≤ R.slots) :
    vx_Run p l e R s m args below meth c H locs cells slots mc ms g rest (Qc (Value.ref b :: As).toArray) XC free := by
  obtain ⟨⟨hrc, hrs, hfr, hlo, hws, hcw⟩, hcode, hini, hy, hlen, hl, hin, hse⟩ := cw
  have hK : vx_Back l R p e below s args y 3 8 (PreOf R mc ms Pc) (PostOf Qc mc ms free) (vx_Post XC mc ms free) := vx_backW (hh := hh) (bytes := bytes) (maxL := maxL) (ret := ret) hM hp.1 hrc hrs hfr hlo hws hcw (fun a' U hW => word_at hW (Or.inl (by first | rfl | simp [Cond.onTables, Cond.keeps, Cond.steady])) hini)
  obtain ⟨hx, hb, hml, ho, -⟩ := S
  obtain ⟨-, ⟨cellB, hcB, hoB, hclB⟩, hPc⟩ := hp
  intro T hT X
  rcases vx_callVX X hx (C := C) (hh := hh) (bytes := bytes) (maxL := maxL) (ret := ret) ho hl hin hse hcode hy hK (by rw [hT]; exact hcB) hoB hclB hg (hsize.trans hml.symm) (argsL := As) (rest := rest) (fun sig h => hn.trans (hlen sig h)) hstack hW (by rw [hb]; exact hdg)
    (fun vm₁ hW₁ => ⟨hf.1, hf.2, hPc (T.setVm vm₁) hT hW₁⟩) with ⟨v, vm₁, ⟨U', l2, c2, s2⟩, hW₁, X', ⟨g', mk, t, L, e1, e2, hq, h1, hL, h2, h3⟩, st⟩ | ⟨q, vm₁, ⟨U', l2, c2, s2⟩, hW₁, X', ⟨g', mk, t, L, E, ce, e1, e2, hq, hce, hcv, hcl, h1, hL, h2, h3⟩, st⟩
  · dsimp only [Pt.U, Pt.locs, Pt.cells, Pt.slots] at X' e1 e2 h1 h2 h3 st
    subst h1; subst h2; subst h3
    exact Or.inl ⟨v, (T.setVm vm₁).calling g' mk (Value.ref b :: As).toArray, t, U', L, hT, X', hL, e1, e2, hq, st⟩
  · dsimp only [Pt.U, Pt.locs, Pt.cells, Pt.slots] at X' e1 e2 h1 h2 h3 st hcl
    subst h1; subst h2; subst h3
    exact Or.inr ⟨q, (T.setVm vm₁).calling g' mk (Value.ref b :: As).toArray, t, U', L, E, ce, hT, X', hL, e1, e2, hq, hce, hcv, vx_cls hW₁ hcl, st⟩
theorem vx_runSX {hh : List (Nat × Nat × Nat × Nat)} (S : CallFix p m c cc nL s args Ts own) (hM : vx_Met l y ws rm Pc Qc XC mc ms free) (cw : vx_CSW R s args own index y bytes maxL ret hh ws rm mc ms n) (hp : PreS s H Pc As)
    (hg : g.method = m) (hn : As.length = n) (hsize : g.locals.size = nL) (hstack : g.stack = As.reverse ++ rest) (hW : 2 * g.monitorRoom + (rest.map fun v => v.category).sum ≤ 8) (hdg : decode cc g.pc = .ok (.invokestatic index, 3)) (hf : cells + mc ≤ R.cells ∧ slots + ms ≤ R.slots) :
    vx_Run p l e R s m args below meth c H locs cells slots mc ms g rest (Qc As.toArray) XC free := by
  obtain ⟨⟨hrc, hrs, hfr, hlo, hws, hcw⟩, hcode, hini, hy, hlen, hl, hstt⟩ := cw
  have hK : vx_Back l R p e below s args y 3 8 (PreOf R mc ms Pc) (PostOf Qc mc ms free) (vx_Post XC mc ms free) := vx_backW (hh := hh) (bytes := bytes) (maxL := maxL) (ret := ret) hM hp.1 hrc hrs hfr hlo hws hcw (fun a' U hW => word_at hW (Or.inl (by first | rfl | simp [Cond.onTables, Cond.keeps, Cond.steady])) hini)
  obtain ⟨hx, hb, hml, ho, -⟩ := S
  intro T hT X
  rcases vx_callSX X hx (hh := hh) (bytes := bytes) (maxL := maxL) (ret := ret) ho hl hstt hini hcode hy hK hg (hsize.trans hml.symm) (argsL := As) (rest := rest) (fun sig h => hn.trans (hlen sig h)) hstack hW (by rw [hb]; exact hdg)
    (fun vm₁ hW₁ => ⟨hf.1, hf.2, hp.2 (T.setVm vm₁) hT hW₁⟩) with ⟨v, vm₁, ⟨U', l2, c2, s2⟩, hW₁, X', ⟨g', mk, t, L, e1, e2, hq, h1, hL, h2, h3⟩, st⟩ | ⟨q, vm₁, ⟨U', l2, c2, s2⟩, hW₁, X', ⟨g', mk, t, L, E, ce, e1, e2, hq, hce, hcv, hcl, h1, hL, h2, h3⟩, st⟩
  · dsimp only [Pt.U, Pt.locs, Pt.cells, Pt.slots] at X' e1 e2 h1 h2 h3 st
    subst h1; subst h2; subst h3
    exact Or.inl ⟨v, (T.setVm vm₁).calling g' mk As.toArray, t, U', L, hT, X', hL, e1, e2, hq, st⟩
  · dsimp only [Pt.U, Pt.locs, Pt.cells, Pt.slots] at X' e1 e2 h1 h2 h3 st hcl
    subst h1; subst h2; subst h3
    exact Or.inr ⟨q, (T.setVm vm₁).calling g' mk As.toArray, t, U', L, E, ce, hT, X', hL, e1, e2, hq, hce, hcv, vx_cls hW₁ hcl, st⟩
end
end VXH
theorem vx_ofWH {l : Launch} {y : MethodName} {ws ws' : List Cond} {rm : Room} {Pc : Array Value → State → Prop} {Qc : Array Value → State → Outcome → State → Prop} {XC : String → State → State → Prop} {mc ms : Nat} {free : Addr → Prop} {cc : ByteArray} {maxL : Nat} {ret : Option FieldType} {hh : List (Nat × Nat × Nat × Nat)}
    (hy : plainName y.cls = true) (hw : ws = Cond.codeWith y cc maxL ret hh :: ws')
    (body : ∀ p e s m args below meth c s₁, BodyLoose p l y (headSpec ws rm) cc maxL ret e s m args below meth c s₁ → c.maxLocals = maxL → Pc args s →
      W p l e (headSpec ws rm).room s m args below meth c s.heap [] 0 0 (vx_MQ below Qc XC args s mc ms free) (entryFrame m args maxL)) : vx_Met l y ws rm Pc Qc XC mc ms free := by
  refine MetFree.of_bodyS (code := cc) (maxLocals := maxL) (ret := ret) hy ?_ ?_
  · intro args s m h hn
    obtain ⟨m9, meth, c, hn9, h1, h2, h3, h4, -, h5, h6, -⟩ := Cond.codeWith_spec (atoms_spec (ws := ws) h _ (by rw [hw]; exact List.mem_cons_self))
    cases hn.symm.trans hn9
    exact ⟨meth, c, h1, h2, h3, h4, h5, h6⟩
  · intro p e s m args below meth c s₁ B hml hP _
    have hh0 : s₁.heap = s.heap := by rw [B.state]; rfl
    obtain ⟨t, a1, o, b1, b2, b3⟩ := body p e s m args below meth c s₁ B hml hP s₁ hh0 (Stand.of_body B)
    exact ⟨t, o, a1, b1, b2, b3⟩
/-! ===== END ===== -/
/-! ===== BEGIN what the machine throws by itself, no traces kept ===== -/
section VXM
set_option maxHeartbeats 1000000 in
/-- the machine throws cls with the message text, no traces kept: from its note over the frame g to 'throwing' over the same frame (follows the proofs of Stand.vmThrowsMessage, Shelf/KitTracedVmS.lean, and Stand.throwsMessageColdBareV, StandMessageColdV.lean, without the step out of the frame) -/
theorem vx_vmAt {p : Program} {l : Launch} {e : Env} {R : Room} {s : State} {m₀ : MethodId} {args : Array Value} {below : List Frame} {meth : Method} {c : Code} {W : State} {locs : List Loc} {cells slots : Nat}
    (X : Stand p l e R s m₀ args below meth c W locs cells slots) (hexec : p.tables.exec = Jvm.exec) (htr : e.platform.stackTraces = false) {cls : String} {names : List String} {text : String}
    (hcls : Bundle.fit cls = true) (hnames : ∀ n ∈ names, Bundle.fit n = true) (hsoe : (cls == "java/lang/StackOverflowError") = false) (hoom : (cls == "java/lang/OutOfMemoryError") = false)
    (h : ∀ a ∈ Bundle.messageArmAtoms cls names, a.before args s = true)
    (hlocs : ∀ x ∈ locs, ∀ cell, s.heap[x.base]? = some cell → cell.vm.isStatics = false)
    (htext : (text == notModelled) = false) (hlimit : ¬ (stringBytes (stringToUtf16 text)).size > e.platform.arrayLengthLimit) (hheap : ¬ (stringBytes (stringToUtf16 text)).size * componentBytes .byte > e.platform.maxHeapBytes)
    {g : JFrame} (hg : g.method = m₀) (hsize : g.locals.size = c.maxLocals)
    (hRframes : names.length + 4 < R.frames) (hRlocals : 2 * g.monitorRoom + (g.stack.map fun v => v.category).sum + 10240 ≤ R.locals) (hshort : 13 * names.length + 55 ≤ 10240)
    (hRcells : cells + 3 ≤ R.cells) (hRslots : slots + ((stringBytes (stringToUtf16 text)).size + 4 + 6) ≤ R.slots) (hlocks : meth.locks = false) :
    ∃ (S : State) (q : Addr) (ce : Cell), (∀ target, Steps p.tables e below ((S.setTop g).pushFrame (.throwing q)) target → Steps p.tables e below ((W.setTop g).pushFrame (.throwNew cls (some text) none)) target) ∧
      Stand p l e R s m₀ args below meth c S locs (cells + 3) (slots + ((stringBytes (stringToUtf16 text)).size + 4 + 6)) ∧ S.heap[q]? = some ce ∧ s.vm.findClass cls = some ce.cls ∧ ce.vm = .none := by
  have howns : e.platform.frameOwnsMonitors = true := by rw [X.admits.platform]
  have hfin : e.platform.finalization = false := by rw [X.admits.platform]
  have hpl : e.platform.magicAccessors = ({} : Platform).magicAccessors := by rw [X.admits.platform]
  have a : ∀ x, x ∈ Bundle.messageArmAtoms cls names → x.holds args s none s [] = true := fun x hx => h x hx
  obtain ⟨T, Z0, L, -, Y⟩ := ThrowableC.of_atoms (args := args) howns hfin hpl (fun x hx => h x (by simp [Bundle.messageArmAtoms, hx]))
  obtain ⟨Z, M, LZ, LM, hnZ⟩ := Init0T.ofS_atoms (args := args) hpl L Y (fun x hx => h x (by simp [Bundle.messageArmAtoms, hx]))
  obtain ⟨P1, Ps, hlen, L1, hL, hP1m, hlink1, hlink⟩ := Bundle.chainS (args := args) hpl hnZ names cls hcls hnames (fun x hx => h x (by simp [Bundle.messageArmAtoms, hx]))
  obtain ⟨Zs, LZs, hn4, hfitv, hfitc⟩ := StringT.of_atoms (args := args) (fun x hx => h x (by simp [Bundle.messageArmAtoms, hx]))
  have hfound : s.vm.findClass cls = some P1.m.cls := findClass_of_methodNamed hP1m
  obtain ⟨c1, kX, hc1, hk, hord, -, -, hn6⟩ := Cond.instantiable_spec (a (.instantiable cls 6) (by simp [Bundle.messageArmAtoms]))
  cases Option.some.inj (hc1.symm.trans hfound)
  have hinit := Cond.initialized_spec hfound hk (a (.initialized cls) (by simp [Bundle.messageArmAtoms]))
  have hctor : kX.findMethod "<init>" "(Ljava/lang/String;)V" = some P1.m.idx := findMethod_of_methodNamed hP1m hk
  have hsel0 : selectMethod e.platform s.vm P1.m.cls T.fill0 = .method T.fill0 := by
    obtain ⟨c2, r2, m2, q1, q2, q3, q4, -⟩ := Cond.selects_spec (a (.selects cls Bundle.tFill0 Bundle.tFill0) (by simp [Bundle.messageArmAtoms]))
    cases Option.some.inj (q1.symm.trans hfound)
    cases Option.some.inj (q2.symm.trans (State.methodFound?_of_named Y.fill0 (by decide)))
    cases Option.some.inj (q3.symm.trans Y.fill0)
    rw [Launch.admits_selectMethod X.admits]; exact q4
  have hselF : selectMethod e.platform s.vm P1.m.cls T.fill = .method T.fill := by
    obtain ⟨c2, r2, m2, q1, q2, q3, q4, -⟩ := Cond.selects_spec (a (.selects cls Bundle.tFill Bundle.tFill) (by simp [Bundle.messageArmAtoms]))
    cases Option.some.inj (q1.symm.trans hfound)
    cases Option.some.inj (q2.symm.trans (State.methodFound?_of_named Y.fill (by decide)))
    cases Option.some.inj (q3.symm.trans Y.fill)
    rw [Launch.admits_selectMethod X.admits]; exact q4
  obtain ⟨cellS0, hcS0, hiss⟩ := Y.statics
  obtain ⟨u0, hu0⟩ := Cond.staticRefV Y.unassigned L.unassignedStatic L.statics hcS0 hiss (a (.isRef (.static Bundle.tN "UNASSIGNED_STACK" Bundle.steD)) (by simp [Bundle.messageArmAtoms]))
  obtain ⟨sen, hsen⟩ := Cond.staticRefV Y.sentinel L.sentinelStatic L.statics hcS0 hiss (a (.isRef (.static Bundle.tN "SUPPRESSED_SENTINEL" Bundle.listD)) (by simp [Bundle.messageArmAtoms]))
  obtain ⟨ci198, i198, fB, hk198, hg198, ha198, hsB, -, hnB, htB, hffB⟩ := Cond.ownField (t := .object "java/lang/Object") Y.found L.cls (by decide +kernel) (a (.fieldLink Bundle.tN 198 Bundle.tN "backtrace" "Ljava/lang/Object;") (by simp [Bundle.messageArmAtoms])) (a (.lays Bundle.tN Bundle.tN "backtrace" "Ljava/lang/Object;") (by simp [Bundle.messageArmAtoms])) e.platform hpl
  obtain ⟨cellS, hcS', heS, -, hkeep⟩ := X.same.2.2.2.2.2 T.aS cellS0 hcS0
  have hcellS : W.heap[T.aS]? = some cellS := hcS'
  have hout' : ∀ i, (⟨T.aS, i⟩ : Loc) ∉ locs := fun i hmem => by
    have := hlocs _ hmem cellS0 hcS0
    rw [hiss] at this; cases this
  have hknownS : cellS.vm ≠ .unknown := by
    rw [heS]; intro hu
    rw [show cellS0.vm = .unknown from hu] at hiss
    cases hiss
  have hvU : cellS.slots[T.fUnassigned.slot]? = some u0.v := by rw [hkeep _ (hout' _)]; exact hu0
  have hvSen : cellS.slots[T.fSentinel.slot]? = some sen.v := by rw [hkeep _ (hout' _)]; exact hsen
  obtain ⟨iM, hffM⟩ := Y.msg
  obtain ⟨tyC, dC, hdC, hdnC⟩ := Cond.laysAt hfound hk Y.cause (a (.lays cls Bundle.tN "cause" "Ljava/lang/Throwable;") (by simp [Bundle.messageArmAtoms]))
  obtain ⟨tyS, dS, hdS, hdnS⟩ := Cond.laysAt hfound hk Y.stack (a (.lays cls Bundle.tN "stackTrace" Bundle.steD) (by simp [Bundle.messageArmAtoms]))
  obtain ⟨tyP, dP, hdP, hdnP⟩ := Cond.laysAt hfound hk Y.supp (a (.lays cls Bundle.tN "suppressedExceptions" Bundle.listD) (by simp [Bundle.messageArmAtoms]))
  obtain ⟨tyM, dM, hdM, hdnM⟩ := Cond.laysAt hfound hk hffM (a (.lays cls Bundle.tN "detailMessage" "Ljava/lang/String;") (by simp [Bundle.messageArmAtoms]))
  obtain ⟨tyB, dB, hdB, hdnB⟩ := Cond.laysAt hfound hk hffB (a (.lays cls Bundle.tN "backtrace" "Ljava/lang/Object;") (by simp [Bundle.messageArmAtoms]))
  have bC := Cond.laysApart hdB hdC hdnB hdnC (by rw [hnB, Y.causeName]; decide)
  have bS := Cond.laysApart hdB hdS hdnB hdnS (by rw [hnB, Y.stackName]; decide)
  have bP := Cond.laysApart hdB hdP hdnB hdnP (by rw [hnB, Y.suppName]; decide)
  have hbk : ((preparedCellV T.toThrowableT (freshCell P1.m.cls kX) (W.heap.size + 2) u0 sen).withEntry W.cur).slots[fB.slot]? = some .null := by
    have := fresh_default (c := P1.m.cls) tyB
    rw [htB] at this
    simpa [preparedCellV, Cell.setSlot, Cell.withEntry, Array.getElem?_setIfInBounds, bC, bS, bP, bC.symm, bS.symm, bP.symm, defaultValue] using this
  have tkC := Takes.of_laid (v := .ref (W.heap.size + 2)) hk hord tyC (by rw [Y.causeType]; rfl)
  have tkS := Takes.of_laid (v := u0.v) hk hord tyS (by rw [Y.stackType]; exact fits_refV_array _ u0)
  have tkP := Takes.of_laid (v := sen.v) hk hord tyP (by rw [Y.suppType]; exact fits_refV_object _ sen)
  have tkM := Takes.of_laid (v := .ref (W.heap.size + 1)) hk hord tyM (by rw [Y.msgType]; rfl)
  have hskip : SkipFacts T e.platform s (fun u => u) u0 ((preparedCellV T.toThrowableT (freshCell P1.m.cls kX) (W.heap.size + 2) u0 sen).withEntry W.cur) := ⟨{ ci198 := ci198, i198 := i198, fBack := fB }, ⟨hk198, hg198, ha198, hsB⟩, hbk, fun _ _ => rfl⟩
  have h0 : At W g.method c below := by rw [hg]; exact X.here
  obtain ⟨hbeyond, hfreeW⟩ := X.vmMayThrow hsize (.throwNew cls (some text) none) (fun f hf => by cases hf) rfl hRlocals
  have hfr' : W.frames.length + Ps.length + 4 < (e.platform.stackLimits W.me).1 := by have := X.framesAbove hRframes; omega
  have hwd' : (stackUse (.java g :: W.frames.tail)).2 + 13 * Ps.length + 55 ≤ (e.platform.stackLimits W.me).2 := by have := X.stackAbove hsize (K := 13 * Ps.length + 55) (by omega); omega
  have hslots : W.slotsUsed + (stringBytes (stringToUtf16 text)).size + Zs.kS.instanceTypes.size + kX.instanceTypes.size ≤ e.platform.maxSlots := by
    have := X.slotsAbove hRslots
    rw [hn4, hn6]
    omega
  obtain ⟨vm', hW', st⟩ := Steps.vmThrowsMessageColdByV p (s₀ := s) (S := W) (g := g) h0 hexec T L Z LZ M LM X.warmed (t := W.cur) rfl Zs LZs P1 L1 Ps hL hlink1 hlink hsoe hoom hfound hk hinit hord hctor
    (Launch.admits_hotImplicitExceptions X.admits) hbeyond hfreeW htext hlimit hheap (X.cellsAbove hRcells) hslots (hfitv _) (hfitc _)
    (Nn := fun u => u) heapOnly_id (fun _ _ => rfl) (fun _ => rfl) (fun u x y => setCell_twice _ _ _ _) (fun _ => Nat.le_refl _) (cN := ((preparedCellV T.toThrowableT (freshCell P1.m.cls kX) (W.heap.size + 2) u0 sen).withEntry W.cur))
    hsel0 hcellS hknownS hvU tkS (fun _ hu => hu) (fun _ hu => hu) rfl rfl rfl (by simp [preparedCellV, Cell.setSlot, Cell.withEntry]) hskip (fun _ _ hA hW _ hroom _ hrest => L.nativeOff p htr hA hW hroom hrest) hselF hvSen tkC tkP tkM Y.objLocals rfl hfr' hwd'
  rw [plainBareV_eq T.toThrowableT (W.heap.size + 2) u0 sen (.ref (W.heap.size + 1)) W.cur rfl rfl] at st
  obtain ⟨-, -, w3, w4, -, -, -⟩ := withThrown_facts e.platform W Zs text P1.m.cls kX
  have X3 := ((X.pushed (bytesOf Zs.cB (stringToUtf16 text))).pushed (stringAt Zs.cS Zs.kS Zs.fv Zs.fc (stringToUtf16 text) W.heap.size)).pushed (freshCell P1.m.cls kX)
  rw [← withString_eq] at X3
  have X4 := X3.noted hW'
  have ha : (W.heap.size + 2) < ((withThrown W Zs text P1.m.cls kX).setVm vm').heap.size := by show _ < (withThrown W Zs text P1.m.cls kX).heap.size; rw [w3]; omega
  have hcell : ((withThrown W Zs text P1.m.cls kX).setVm vm').heap[(W.heap.size + 2)]? = some (freshCell P1.m.cls kX) := w4
  have X5 := ((((X4.stored hcell T.fCause.slot (.ref (W.heap.size + 2))).storedAgain ha T.fStack.slot u0.v).storedAgain ha T.fSupp.slot sen.v).storedAgain ha T.fStack.slot u0.v).storedAgain ha T.fMsg.slot (.ref (W.heap.size + 1))
  obtain ⟨g₁, hfrM⟩ := X5.frames_eq
  have hU : ((((withThrown W Zs text P1.m.cls kX).setVm vm').setCell (W.heap.size + 2) (plainBareV T.toThrowableT (freshCell P1.m.cls kX) (W.heap.size + 2) u0 sen (.ref (W.heap.size + 1)))).setTop g).pushFrame (.throwing (W.heap.size + 2)) = (((withThrown W Zs text P1.m.cls kX).setVm vm').setCell (W.heap.size + 2) (plainBareV T.toThrowableT (freshCell P1.m.cls kX) (W.heap.size + 2) u0 sen (.ref (W.heap.size + 1)))).setFrames (.throwing (W.heap.size + 2) :: .java g :: below) := by
    rw [State.pushFrame, State.frames_setTop _ hfrM, State.setTop_of_frames _ hfrM, State.setFrames_setFrames]
  have b1 : (bytesOf Zs.cB (stringToUtf16 text)).slots.size = (stringBytes (stringToUtf16 text)).size := by
    rw [(Cell.writeAll_facts _ _).2.2]; simp [bytes0]
  have b2 : (stringAt Zs.cS Zs.kS Zs.fv Zs.fc (stringToUtf16 text) W.heap.size).slots.size = 4 := by simp [string0, Cell.setSlot, hn4]
  have b3 : (freshCell P1.m.cls kX).slots.size = 6 := by simp [hn6]
  rw [b1, b2, b3] at X5
  have e9 : slots + (stringBytes (stringToUtf16 text)).size + 4 + 6 = slots + ((stringBytes (stringToUtf16 text)).size + 4 + 6) := by omega
  rw [e9] at X5
  simp only [List.append_assoc, List.cons_append, List.nil_append] at X5
  refine ⟨((withThrown W Zs text P1.m.cls kX).setVm vm').setCell (W.heap.size + 2) (plainBareV T.toThrowableT (freshCell P1.m.cls kX) (W.heap.size + 2) u0 sen (.ref (W.heap.size + 1))), W.heap.size + 2, _, fun target ht => st _ (by rw [X.tail, ← hU]; exact ht),
    X5.forget (fun y hy => ?_), heapAt_setCell_self _ ha, hfound, rfl⟩
  simp only [List.mem_cons, List.not_mem_nil, or_false] at hy
  have hge : s.heap.size ≤ W.heap.size := X.same.2.1
  rcases hy with rfl | rfl | rfl | rfl | rfl <;> exact Nat.le_trans hge (Nat.le_add_right _ 2)
set_option maxHeartbeats 1000000 in
/-- the machine throws NullPointerException, no traces kept: from its note over the frame g to 'throwing' over the same frame (follows the proof of Stand.vmThrowsNpe, Shelf42/KT2.lean; throwsNpeColdBareVAt, Shelf42/NT91.lean, called) -/
theorem vx_npeAt {p : Program} {l : Launch} {e : Env} {R : Room} {s : State} {m₀ : MethodId} {args : Array Value} {below : List Frame} {meth : Method} {c : Code} {W : State} {locs : List Loc} {cells slots : Nat}
    (X : Stand p l e R s m₀ args below meth c W locs cells slots) (hexec : p.tables.exec = Jvm.exec) (htr : e.platform.stackTraces = false) {n : Nat}
    (h : ∀ a ∈ Bundle.npeArmAtoms n, a.before args s = true)
    (hlocs : ∀ x ∈ locs, ∀ cell, s.heap[x.base]? = some cell → cell.vm.isStatics = false)
    {g : JFrame} (hg : g.method = m₀) (hsize : g.locals.size = c.maxLocals)
    (hRframes : 7 < R.frames) (hRlocals : 2 * g.monitorRoom + (g.stack.map fun v => v.category).sum + 10240 ≤ R.locals)
    (hRcells : cells + 1 ≤ R.cells) (hRslots : slots + n ≤ R.slots) (hlocks : meth.locks = false) :
    ∃ (S : State) (q : Addr) (ce : Cell), (∀ target, Steps p.tables e below ((S.setTop g).pushFrame (.throwing q)) target → Steps p.tables e below ((W.setTop g).pushFrame (.throwNew "java/lang/NullPointerException" none none)) target) ∧
      Stand p l e R s m₀ args below meth c S locs (cells + 1) (slots + n) ∧ S.heap[q]? = some ce ∧ s.vm.findClass "java/lang/NullPointerException" = some ce.cls ∧ ce.vm = .none := by
  have howns : e.platform.frameOwnsMonitors = true := by rw [X.admits.platform]
  have hfin : e.platform.finalization = false := by rw [X.admits.platform]
  have hpl : e.platform.magicAccessors = ({} : Platform).magicAccessors := by rw [X.admits.platform]
  have hpl2 : e.platform.arrayCloneIsPublic = true := by rw [X.admits.platform]
  have a' : ∀ x, x ∈ Bundle.npeArmAtoms n → x.holds args s none s [] = true := fun x hx => h x hx
  obtain ⟨T, Z, L, LZ, Y⟩ := ThrowableC.of_atoms (args := args) howns hfin hpl (fun x hx => h x (by simp [Bundle.npeArmAtoms, hx]))
  obtain ⟨N, LN, hcN, hnNF, hordN, hffS⟩ := NpeC.of_atoms (args := args) hpl hpl2 L Y (fun x hx => h x (by simp [Bundle.npeArmAtoms, hx]))
  obtain ⟨P1, L1, hP1m, hP1s⟩ := PassC.of_atoms (args := args) (s := s) hpl (X := Bundle.nN) (Y := Bundle.rN) (by decide) (by decide) LibCode.NullPointerException.Init0.at_0 LibCode.NullPointerException.Init0.at_1 LibCode.NullPointerException.Init0.at_4 (fun x hx => h x (by simp [Bundle.npeArmAtoms, hx]))
  obtain ⟨PR, LR, hPRm, hPRs⟩ := PassC.of_atoms (args := args) (s := s) hpl (X := Bundle.rN) (Y := Bundle.eN) (by decide) (by decide) LibCode.RuntimeException.Init0.at_0 LibCode.RuntimeException.Init0.at_1 LibCode.RuntimeException.Init0.at_4 (fun x hx => h x (by simp [Bundle.npeArmAtoms, hx]))
  obtain ⟨PE, LEx, hPEm, hPEs⟩ := PassC.of_atoms (args := args) (s := s) hpl (X := Bundle.eN) (Y := Bundle.tN) (by decide) (by decide) LibCode.Exception.Init0.at_0 LibCode.Exception.Init0.at_1 LibCode.Exception.Init0.at_4 (fun x hx => h x (by simp [Bundle.npeArmAtoms, hx]))
  have hfound : s.vm.findClass Bundle.nN = some P1.m.cls := findClass_of_methodNamed hP1m
  have ecls : N.cN = P1.m.cls := Option.some.inj (hcN.symm.trans hfound)
  have hk : s.vm.classes[P1.m.cls]? = some N.kN := by rw [← ecls]; exact LN.cls
  have hinit := Cond.initialized_spec hfound hk (a' (.initialized Bundle.nN) (by simp [Bundle.npeArmAtoms]))
  have hctor : N.kN.findMethod "<init>" "()V" = some P1.m.idx := findMethod_of_methodNamed hP1m hk
  obtain ⟨c1, k1, hc1, hk1, -, -, -, hn⟩ := Cond.instantiable_spec (a' (.instantiable Bundle.nN n) (by simp [Bundle.npeArmAtoms]))
  cases Option.some.inj (hc1.symm.trans hfound)
  cases Option.some.inj (hk1.symm.trans hk)
  have hfsz : (freshCell P1.m.cls N.kN).slots.size = n := by simp [hn]
  have hlink1 : P1.sup = PR.m := Option.some.inj (hP1s.symm.trans hPRm)
  have hlinkR : PR.sup = PE.m := Option.some.inj (hPRs.symm.trans hPEm)
  have hlinkE : PE.sup = Z.m T.toThrowableT := Option.some.inj (hPEs.symm.trans Y.init0)
  have hLs : ∀ P, P ∈ [PR, PE] → P.Links0 e.platform s := fun P hP => by
    simp only [List.mem_cons, List.not_mem_nil, or_false] at hP
    rcases hP with rfl | rfl
    · exact LR
    · exact LEx
  have hsel0 : selectMethod e.platform s.vm P1.m.cls T.fill0 = .method T.fill0 := by
    obtain ⟨c2, r2, m2, q1, q2, q3, q4, -⟩ := Cond.selects_spec (a' (.selects Bundle.nN Bundle.tFill0 Bundle.tFill0) (by simp [Bundle.npeArmAtoms]))
    cases Option.some.inj (q1.symm.trans hfound)
    cases Option.some.inj (q2.symm.trans (State.methodFound?_of_named Y.fill0 (by decide)))
    cases Option.some.inj (q3.symm.trans Y.fill0)
    rw [Launch.admits_selectMethod X.admits]; exact q4
  have hselF : selectMethod e.platform s.vm P1.m.cls T.fill = .method N.fill := by
    obtain ⟨c2, r2, m2, q1, q2, q3, q4, -⟩ := Cond.selects_spec (a' (.selects Bundle.nN Bundle.tFill Bundle.nFill) (by simp [Bundle.npeArmAtoms]))
    cases Option.some.inj (q1.symm.trans hfound)
    cases Option.some.inj (q2.symm.trans (State.methodFound?_of_named Y.fill (by decide)))
    cases Option.some.inj (q3.symm.trans hnNF)
    rw [Launch.admits_selectMethod X.admits]; exact q4
  obtain ⟨cellS0, hcS0, hiss⟩ := Y.statics
  obtain ⟨u0, hu0⟩ := Cond.staticRefV Y.unassigned L.unassignedStatic L.statics hcS0 hiss (a' (.isRef (.static Bundle.tN "UNASSIGNED_STACK" Bundle.steD)) (by simp [Bundle.npeArmAtoms]))
  obtain ⟨sen, hsen⟩ := Cond.staticRefV Y.sentinel L.sentinelStatic L.statics hcS0 hiss (a' (.isRef (.static Bundle.tN "SUPPRESSED_SENTINEL" Bundle.listD)) (by simp [Bundle.npeArmAtoms]))
  obtain ⟨ci198, i198, fB, hk198, hg198, ha198, hsB, -, hnB, htB, hffB⟩ := Cond.ownField (t := .object "java/lang/Object") Y.found L.cls (by decide +kernel) (a' (.fieldLink Bundle.tN 198 Bundle.tN "backtrace" Bundle.objD) (by simp [Bundle.npeArmAtoms])) (a' (.lays Bundle.tN Bundle.tN "backtrace" Bundle.objD) (by simp [Bundle.npeArmAtoms])) e.platform hpl
  obtain ⟨cellS, hcS', heS, -, hkeep⟩ := X.same.2.2.2.2.2 T.aS cellS0 hcS0
  have hcellS : W.heap[T.aS]? = some cellS := hcS'
  have hout' : ∀ i, (⟨T.aS, i⟩ : Loc) ∉ locs := fun i hmem => by
    have := hlocs _ hmem cellS0 hcS0
    rw [hiss] at this; cases this
  have hknownS : cellS.vm ≠ .unknown := by
    rw [heS]; intro hu
    rw [show cellS0.vm = .unknown from hu] at hiss
    cases hiss
  have hvU : cellS.slots[T.fUnassigned.slot]? = some u0.v := by rw [hkeep _ (hout' _)]; exact hu0
  have hvSen : cellS.slots[T.fSentinel.slot]? = some sen.v := by rw [hkeep _ (hout' _)]; exact hsen
  obtain ⟨tyC, dC, hdC, hdnC⟩ := Cond.laysAt hfound hk Y.cause (a' (.lays Bundle.nN Bundle.tN "cause" "Ljava/lang/Throwable;") (by simp [Bundle.npeArmAtoms]))
  obtain ⟨tyS, dS, hdS, hdnS⟩ := Cond.laysAt hfound hk Y.stack (a' (.lays Bundle.nN Bundle.tN "stackTrace" Bundle.steD) (by simp [Bundle.npeArmAtoms]))
  obtain ⟨tyP, dP, hdP, hdnP⟩ := Cond.laysAt hfound hk Y.supp (a' (.lays Bundle.nN Bundle.tN "suppressedExceptions" Bundle.listD) (by simp [Bundle.npeArmAtoms]))
  obtain ⟨tyX, dX, hdX, hdnX⟩ := Cond.laysAt hfound hk hffS (a' (.lays Bundle.nN Bundle.nN "extendedMessageState" "I") (by simp [Bundle.npeArmAtoms, Bundle.npeAtoms]))
  obtain ⟨hnX, htX⟩ := State.fieldFound?_type hffS (t := .int) (by decide +kernel)
  have xC := Cond.laysApart hdC hdX hdnC hdnX (by rw [hnX, Y.causeName]; decide)
  have xS := Cond.laysApart hdS hdX hdnS hdnX (by rw [hnX, Y.stackName]; decide)
  have xP := Cond.laysApart hdP hdX hdnP hdnX (by rw [hnX, Y.suppName]; decide)
  have hv0 : (freshCell P1.m.cls N.kN).slots[N.fState.slot]? = some (.int 0) := by
    have := fresh_default (c := P1.m.cls) tyX
    rw [htX] at this; exact this
  obtain ⟨tyB, dB, hdB, hdnB⟩ := Cond.laysAt hfound hk hffB (a' (.lays Bundle.nN Bundle.tN "backtrace" Bundle.objD) (by simp [Bundle.npeArmAtoms]))
  have bC := Cond.laysApart hdB hdC hdnB hdnC (by rw [hnB, Y.causeName]; decide)
  have bS := Cond.laysApart hdB hdS hdnB hdnS (by rw [hnB, Y.stackName]; decide)
  have bP := Cond.laysApart hdB hdP hdnB hdnP (by rw [hnB, Y.suppName]; decide)
  have bX := Cond.laysApart hdB hdX hdnB hdnX (by rw [hnB, hnX]; decide)
  have hbk : ((npeCell N.toNpeT (preparedCellV T.toThrowableT (freshCell P1.m.cls N.kN) W.heap.size u0 sen) W.cur).withEntry W.cur).slots[fB.slot]? = some .null := by
    have := fresh_default (c := P1.m.cls) tyB
    rw [htB] at this
    simpa [npeCell, preparedCellV, Cell.setSlot, Cell.withEntry, Array.getElem?_setIfInBounds, bC, bS, bP, bX, bC.symm, bS.symm, bP.symm, bX.symm, defaultValue] using this
  have tkC := Takes.of_laid (v := .ref W.heap.size) hk hordN tyC (by rw [Y.causeType]; rfl)
  have tkS := Takes.of_laid (v := u0.v) hk hordN tyS (by rw [Y.stackType]; exact fits_refV_array _ u0)
  have tkP := Takes.of_laid (v := sen.v) hk hordN tyP (by rw [Y.suppType]; exact fits_refV_object _ sen)
  have tkX := Takes.of_laid (v := .int 1) hk hordN tyX (by rw [htX]; rfl)
  have hskip : SkipFacts T e.platform s (fun u => u) u0 ((npeCell N.toNpeT (preparedCellV T.toThrowableT (freshCell P1.m.cls N.kN) W.heap.size u0 sen) W.cur).withEntry W.cur) := ⟨{ ci198 := ci198, i198 := i198, fBack := fB }, ⟨hk198, hg198, ha198, hsB⟩, hbk, fun _ _ => rfl⟩
  obtain ⟨vm', X3, st, -⟩ := X.throwsNpeColdBareVAt hexec hg hsize T L Z LZ N LN P1 L1 [PR, PE] hLs hlink1 ⟨hlinkR, hlinkE, trivial⟩ hfound hk hinit hordN hctor hsel0 hselF hcellS hknownS hvU hvSen
    hv0 xC xS xP tkC tkS tkP tkX Y.objLocals hskip (fun _ _ hA hW _ hroom _ hrest => L.nativeOff p htr hA hW hroom hrest) (by simpa using hRframes) hRlocals (by simp) hRcells (by rw [hn]; exact hRslots)
  have hlt : W.heap.size < ((W.pushCell (freshCell P1.m.cls N.kN)).setVm vm').heap.size := by
    show W.heap.size < (W.pushCell (freshCell P1.m.cls N.kN)).heap.size
    rw [State.heap_size_pushCell]; omega
  rw [hfsz] at X3
  obtain ⟨g₁, hfrM⟩ := X3.frames_eq
  have hU : ((((W.pushCell (freshCell P1.m.cls N.kN)).setVm vm').setCell W.heap.size (npeBareV T.toThrowableT N.toNpeT (freshCell P1.m.cls N.kN) W.heap.size u0 sen)).setTop g).pushFrame (.throwing W.heap.size) = (((W.pushCell (freshCell P1.m.cls N.kN)).setVm vm').setCell W.heap.size (npeBareV T.toThrowableT N.toNpeT (freshCell P1.m.cls N.kN) W.heap.size u0 sen)).setFrames (.throwing W.heap.size :: .java g :: below) := by
    rw [State.pushFrame, State.frames_setTop _ hfrM, State.setTop_of_frames _ hfrM, State.setFrames_setFrames]
  refine ⟨_, W.heap.size, _, fun target ht => st.trans (by rw [← hU]; exact ht), X3.forget (fun y hy => ?_), heapAt_setCell_self _ hlt, hfound, rfl⟩
  simp only [List.mem_cons, List.not_mem_nil, or_false] at hy
  have hge : s.heap.size ≤ W.heap.size := X.same.2.1
  rcases hy with rfl | rfl | rfl | rfl | rfl <;> exact hge
/-- the words of a machine's NullPointerException, but the four that speak of the heap -/
def vx_atN (n : Nat) : List Cond := (Bundle.npeArmAtoms n).filter vx_no
/-- the words of a machine's throw with a message, but the four that speak of the heap -/
def vx_atM (X : String) (names : List String) : List Cond := (Bundle.messageArmAtoms X names).filter vx_no
section
variable {p : Program} {l : Launch} {e : Env} {R : Room} {s : State} {m : MethodId} {args : Array Value} {below : List Frame} {meth : Method} {c : Code} {H : Heap} {locs : List Loc} {cells slots : Nat}
/-- a frame seen from a rebased start, seen from the first start again -/
theorem vx_back9 {T S : State} {R' : Room} {k n : Nat} (X : Stand p l e R s m args below meth c T locs cells slots) (Y : Stand p l e R' ((T.setVm s.vm).setFrames (.invoking m args :: below)) m args below meth c T [] 0 0) (Z : Stand p l e R' ((T.setVm s.vm).setFrames (.invoking m args :: below)) m args below meth c S [] k n) :
    Stand p l e R s m args below meth c S locs (cells + k) (slots + n) := by
  have hW0 : s.WarmedH ((T.setVm s.vm).setFrames (.invoking m args :: below)).vm := State.WarmedH.refl s
  refine { admits := X.admits, cas := X.cas, clock := X.clock, frames := X.frames, room := X.room, hears := X.hears, method := X.method, code := X.code, here := Z.here, tail := Z.tail, warmed := State.WarmedH.trans hW0 Z.warmed, limits := Z.limits.trans (Y.limits.symm.trans X.limits), bytes := Z.bytes.trans (Y.bytes.symm.trans X.bytes), same := ?_ }
  obtain ⟨e1, e2⟩ := Z.same
  rw [State.setFrames_setFrames] at e1
  have h2 : (T.setVm s.vm).sameButNew (S.setVm s.vm) [] k n := ⟨e1, e2⟩
  have h3 := X.same.trans h2
  rw [List.append_nil] at h3
  exact h3
/-- from the machine's note that E is thrown here with this text -/
def vx_Note (p : Program) (l : Launch) (e : Env) (R : Room) (s : State) (m : MethodId) (args : Array Value) (below : List Frame) (meth : Method) (c : Code) (H : Heap) (locs : List Loc) (cells slots : Nat) (Q : State → Prop) (g : JFrame) (E text : String) : Prop :=
  ∀ T : State, T.heap = H → Stand p l e R s m args below meth c T locs cells slots → ∃ t, Steps p.tables e below ((T.setTop g).pushFrame (.throwNew E (some text) none)) t ∧ Q t
theorem vx_vm {pc : Nat} {ls : Array Slot} {rest : List Value} {Q : State → Prop} (hexec : p.tables.exec = Jvm.exec) (hl : l.stackTraces = false) {cls text : String} {names : List String} {nb : Nat} {A : Nat → Prop}
    (hcls : Bundle.fit cls = true) (hnames : ∀ n ∈ names, Bundle.fit n = true) (hsoe : (cls == "java/lang/StackOverflowError") = false) (hoom : (cls == "java/lang/OutOfMemoryError") = false)
    (hat : ∀ w ∈ vx_atM cls names, w.before args s = true) (hgood : ∀ w ∈ vx_atM cls names, vx_ot w = true)
    (hU : vx_Zq Bundle.tN "UNASSIGNED_STACK" Bundle.steD A s s.heap) (hN : vx_Zq Bundle.tN "SUPPRESSED_SENTINEL" Bundle.listD A s s.heap) (hS : va_S A s.heap H locs) (hsize : ls.size = c.maxLocals)
    (htext : (text == notModelled) = false) (hnb : (stringBytes (stringToUtf16 text)).size ≤ nb) (hnb1 : nb ≤ 1000)
    (hRframes : names.length + 4 < R.frames) (hRlocals : (rest.map fun v => v.category).sum + 10240 ≤ R.locals) (hshort : 13 * names.length + 55 ≤ 10240) (hRcells : cells + 3 ≤ R.cells) (hRslots : slots + (nb + 10) ≤ R.slots) (hlocks : meth.locks = false)
    (k : ∀ (H1 : Heap) (q9 : Addr) (ce : Cell), H.size ≤ H1.size → (∀ q : Nat, q < H.size → H1[q]? = H[q]?) → va_S A s.heap H1 locs → H1[q9]? = some ce → ce.vm = .none → s.vm.findClass cls = some ce.cls → vx_W p l e R s m args below meth c H1 locs (cells + 3) (slots + (nb + 10)) Q (F0 m pc ls rest) q9) :
    vx_Note p l e R s m args below meth c H locs cells slots Q (F0 m pc ls rest) cls text := by
  intro T hT X
  have htr : e.platform.stackTraces = false := (show e.platform.stackTraces = l.stackTraces by rw [X.admits.platform]).trans hl
  have Y := vx_rebase X (R' := { frames := R.frames, locals := R.locals, cells := 3, slots := nb + 10 }) (Nat.le_refl _) (Nat.le_refl _) hRcells hRslots
  have hhp : ((T.setVm s.vm).setFrames (.invoking m args :: below)).heap = H := hT
  have hW0 : s.WarmedH ((T.setVm s.vm).setFrames (.invoking m args :: below)).vm := State.WarmedH.refl s
  have hat' : ∀ w ∈ vx_atM cls names, w.before args ((T.setVm s.vm).setFrames (.invoking m args :: below)) = true := fun w hw => vx_ot_at hW0 rfl (hgood w hw) (hat w hw)
  have hU' : vx_Zq Bundle.tN "UNASSIGNED_STACK" Bundle.steD A ((T.setVm s.vm).setFrames (.invoking m args :: below)) ((T.setVm s.vm).setFrames (.invoking m args :: below)).heap := by rw [hhp]; exact vx_Zq.moved hW0.alike (hU.kept hS.2.1)
  have hN' : vx_Zq Bundle.tN "SUPPRESSED_SENTINEL" Bundle.listD A ((T.setVm s.vm).setFrames (.invoking m args :: below)) ((T.setVm s.vm).setFrames (.invoking m args :: below)).heap := by rw [hhp]; exact vx_Zq.moved hW0.alike (hN.kept hS.2.1)
  obtain ⟨S, q, ce, st, Z, hce, hcl', hv⟩ := vx_vmAt Y hexec htr (cls := cls) (names := names) (text := text) hcls hnames hsoe hoom (vx_own hat' (vx_isRefq hU'.1) (vx_isRefq hN'.1) hU'.2.word hN'.2.word) (fun x hx => nomatch hx) htext
    (by rw [Launch.admits_arrayLengthLimit X.admits]; omega) (by rw [Launch.admits_maxHeapBytes X.admits]; simp only [componentBytes]; omega)
    (g := F0 m pc ls rest) rfl hsize hRframes (by show 2 * 0 + (rest.map fun v => v.category).sum + 10240 ≤ R.locals; omega) hshort (by show 0 + 3 ≤ 3; omega) (by show 0 + (_ + 4 + 6) ≤ nb + 10; omega) hlocks
  obtain ⟨f1, f2⟩ := vx_frame Z.same
  have f1' : H.size ≤ S.heap.size := by rw [← hT]; exact f1
  have f2' : ∀ q : Nat, q < H.size → S.heap[q]? = H[q]? := fun q hq => by
    rw [← hT]
    exact f2 q (by rw [← hT] at hq; exact hq) (fun z hz => nomatch hz)
  have X5 := vx_back9 X Y Z
  have X6 : Stand p l e R s m args below meth c S locs (cells + 3) (slots + (nb + 10)) := { X5 with same := X5.same.mono (by omega) (by omega) }
  obtain ⟨t, a1, b1⟩ := k S.heap q ce f1' f2' ⟨Nat.le_trans hS.1 f1', fun q h1 h2 => (f2' q (Nat.lt_of_lt_of_le h1 hS.1)).trans (hS.2.1 q h1 h2), hS.2.2⟩ hce hv hcl' S rfl X6
  exact ⟨t, st t a1, b1⟩
/-- from the machine's note that NullPointerException is thrown here -/
def vx_NoteN (p : Program) (l : Launch) (e : Env) (R : Room) (s : State) (m : MethodId) (args : Array Value) (below : List Frame) (meth : Method) (c : Code) (H : Heap) (locs : List Loc) (cells slots : Nat) (Q : State → Prop) (g : JFrame) : Prop :=
  ∀ T : State, T.heap = H → Stand p l e R s m args below meth c T locs cells slots → ∃ t, Steps p.tables e below ((T.setTop g).pushFrame (.throwNew "java/lang/NullPointerException" none none)) t ∧ Q t
theorem vx_npe {pc : Nat} {ls : Array Slot} {rest : List Value} {Q : State → Prop} (hexec : p.tables.exec = Jvm.exec) (hl : l.stackTraces = false) {nb : Nat} {A : Nat → Prop}
    (hat : ∀ w ∈ vx_atN nb, w.before args s = true) (hgood : ∀ w ∈ vx_atN nb, vx_ot w = true)
    (hU : vx_Zq Bundle.tN "UNASSIGNED_STACK" Bundle.steD A s s.heap) (hN : vx_Zq Bundle.tN "SUPPRESSED_SENTINEL" Bundle.listD A s s.heap) (hS : va_S A s.heap H locs) (hsize : ls.size = c.maxLocals)
    (hRframes : 7 < R.frames) (hRlocals : (rest.map fun v => v.category).sum + 10240 ≤ R.locals) (hRcells : cells + 1 ≤ R.cells) (hRslots : slots + nb ≤ R.slots) (hlocks : meth.locks = false)
    (k : ∀ (H1 : Heap) (q9 : Addr) (ce : Cell), H.size ≤ H1.size → (∀ q : Nat, q < H.size → H1[q]? = H[q]?) → va_S A s.heap H1 locs → H1[q9]? = some ce → ce.vm = .none → s.vm.findClass "java/lang/NullPointerException" = some ce.cls → vx_W p l e R s m args below meth c H1 locs (cells + 1) (slots + nb) Q (F0 m pc ls rest) q9) :
    vx_NoteN p l e R s m args below meth c H locs cells slots Q (F0 m pc ls rest) := by
  intro T hT X
  have htr : e.platform.stackTraces = false := (show e.platform.stackTraces = l.stackTraces by rw [X.admits.platform]).trans hl
  have Y := vx_rebase X (R' := { frames := R.frames, locals := R.locals, cells := 1, slots := nb }) (Nat.le_refl _) (Nat.le_refl _) hRcells hRslots
  have hhp : ((T.setVm s.vm).setFrames (.invoking m args :: below)).heap = H := hT
  have hW0 : s.WarmedH ((T.setVm s.vm).setFrames (.invoking m args :: below)).vm := State.WarmedH.refl s
  have hat' : ∀ w ∈ vx_atN nb, w.before args ((T.setVm s.vm).setFrames (.invoking m args :: below)) = true := fun w hw => vx_ot_at hW0 rfl (hgood w hw) (hat w hw)
  have hU' : vx_Zq Bundle.tN "UNASSIGNED_STACK" Bundle.steD A ((T.setVm s.vm).setFrames (.invoking m args :: below)) ((T.setVm s.vm).setFrames (.invoking m args :: below)).heap := by rw [hhp]; exact vx_Zq.moved hW0.alike (hU.kept hS.2.1)
  have hN' : vx_Zq Bundle.tN "SUPPRESSED_SENTINEL" Bundle.listD A ((T.setVm s.vm).setFrames (.invoking m args :: below)) ((T.setVm s.vm).setFrames (.invoking m args :: below)).heap := by rw [hhp]; exact vx_Zq.moved hW0.alike (hN.kept hS.2.1)
  obtain ⟨S, q, ce, st, Z, hce, hcl', hv⟩ := vx_npeAt Y hexec htr (n := nb) (vx_own hat' (vx_isRefq hU'.1) (vx_isRefq hN'.1) hU'.2.word hN'.2.word) (fun x hx => nomatch hx)
    (g := F0 m pc ls rest) rfl hsize hRframes (by show 2 * 0 + (rest.map fun v => v.category).sum + 10240 ≤ R.locals; omega) (by show 0 + 1 ≤ 1; omega) (by show 0 + nb ≤ nb; omega) hlocks
  obtain ⟨f1, f2⟩ := vx_frame Z.same
  have f1' : H.size ≤ S.heap.size := by rw [← hT]; exact f1
  have f2' : ∀ q : Nat, q < H.size → S.heap[q]? = H[q]? := fun q hq => by
    rw [← hT]
    exact f2 q (by rw [← hT] at hq; exact hq) (fun z hz => nomatch hz)
  have X5 := vx_back9 X Y Z
  have X6 : Stand p l e R s m args below meth c S locs (cells + 1) (slots + nb) := { X5 with same := X5.same.mono (by omega) (by omega) }
  obtain ⟨t, a1, b1⟩ := k S.heap q ce f1' f2' ⟨Nat.le_trans hS.1 f1', fun q h1 h2 => (f2' q (Nat.lt_of_lt_of_le h1 hS.1)).trans (hS.2.1 q h1 h2), hS.2.2⟩ hce hv hcl' S rfl X6
  exact ⟨t, st t a1, b1⟩
variable {Q : State → Prop} {cc : ByteArray} {pc : Nat} {ls : Array Slot} {rest : List Value}
theorem vx_idivZ (hexec : p.tables.exec = Jvm.exec) (hb : c.code = cc) {a b : Int32} (h0 : b = 0) (d : decode cc pc = .ok (.idiv, 1)) (k : vx_Note p l e R s m args below meth c H locs cells slots Q (F0 m pc ls rest) "java/lang/ArithmeticException" "/ by zero") :
    W p l e R s m args below meth c H locs cells slots Q (F0 m pc ls (.int b :: .int a :: rest)) := by
  intro T hT X
  obtain ⟨t, st, q⟩ := k T hT X
  exact ⟨t, X.idivZero hexec (g := F0 m pc ls (.int b :: .int a :: rest)) rfl (a := a) (rest := rest) (by rw [h0]) (by rw [hb]; exact d) t st, q⟩
theorem vx_iremZ (hexec : p.tables.exec = Jvm.exec) (hb : c.code = cc) {a b : Int32} (h0 : b = 0) (d : decode cc pc = .ok (.irem, 1)) (k : vx_Note p l e R s m args below meth c H locs cells slots Q (F0 m pc ls rest) "java/lang/ArithmeticException" "/ by zero") :
    W p l e R s m args below meth c H locs cells slots Q (F0 m pc ls (.int b :: .int a :: rest)) := by
  intro T hT X
  obtain ⟨t, st, q⟩ := k T hT X
  exact ⟨t, X.iremZero hexec (g := F0 m pc ls (.int b :: .int a :: rest)) rfl (a := a) (rest := rest) (by rw [h0]) (by rw [hb]; exact d) t st, q⟩
theorem vx_ldivZ (hexec : p.tables.exec = Jvm.exec) (hb : c.code = cc) {a b : Int64} (h0 : b = 0) (d : decode cc pc = .ok (.ldiv, 1)) (k : vx_Note p l e R s m args below meth c H locs cells slots Q (F0 m pc ls rest) "java/lang/ArithmeticException" "/ by zero") :
    W p l e R s m args below meth c H locs cells slots Q (F0 m pc ls (.long b :: .long a :: rest)) := by
  intro T hT X
  obtain ⟨t, st, q⟩ := k T hT X
  exact ⟨t, X.ldivZero hexec (g := F0 m pc ls (.long b :: .long a :: rest)) rfl (a := a) (rest := rest) (by rw [h0]) (by rw [hb]; exact d) t st, q⟩
theorem vx_lremZ (hexec : p.tables.exec = Jvm.exec) (hb : c.code = cc) {a b : Int64} (h0 : b = 0) (d : decode cc pc = .ok (.lrem, 1)) (k : vx_Note p l e R s m args below meth c H locs cells slots Q (F0 m pc ls rest) "java/lang/ArithmeticException" "/ by zero") :
    W p l e R s m args below meth c H locs cells slots Q (F0 m pc ls (.long b :: .long a :: rest)) := by
  intro T hT X
  obtain ⟨t, st, q⟩ := k T hT X
  exact ⟨t, X.lremZero hexec (g := F0 m pc ls (.long b :: .long a :: rest)) rfl (a := a) (rest := rest) (by rw [h0]) (by rw [hb]; exact d) t st, q⟩
theorem vx_ialdZ {D : va_G} {cl : List vw_C} {ws : va_W} {tys : List (ClassId × FieldType)} {a : Nat} (hexec : p.tables.exec = Jvm.exec) (hb : c.code = cc) (hK : va_K D cl tys s) (hP : va_P D cl ws H) (q0 t0 : Nat) {cA : ClassId} {n : Nat} {f : Nat → Int32} (ha : ws[q0]? = some (a, .inl (cA, n, .inl f))) (ht : tys[t0]? = some (cA, .int)) {i : Int32} (hout : ¬ vp_in i n) (hdg : decode cc pc = .ok (.iaload, 1))
    (k : ∀ tx : String, tx = (toString "Index " ++ toString i ++ toString " out of bounds for length " ++ toString n : String) → vx_Note p l e R s m args below meth c H locs cells slots Q (F0 m pc ls rest) "java/lang/ArrayIndexOutOfBoundsException" tx) : W p l e R s m args below meth c H locs cells slots Q (F0 m pc ls (.int i :: .ref a :: rest)) := by
  intro T hT X
  obtain ⟨t, st, q⟩ := k _ rfl T hT X
  refine ⟨t, ?_, q⟩
  have h1 := X.ialoadOut hexec (by rw [hT]; exact hP q0 _ ha) ((hK.2 t0 _ ht).1 n (fun j => .int (f j))) (j := i) (by show (i < 0 ∨ (arrV _ _ _).slots.size ≤ _); rw [arrV_size]; exact Classical.byContradiction hout) (g := F0 m pc ls (.int i :: .ref a :: rest)) rfl (rest := rest) rfl (by rw [hb]; exact hdg) t
  simp only [arrV_size] at h1
  exact h1 st
theorem vx_iastZ {D : va_G} {cl : List vw_C} {ws : va_W} {tys : List (ClassId × FieldType)} {a : Nat} (hexec : p.tables.exec = Jvm.exec) (hb : c.code = cc) (hK : va_K D cl tys s) (hP : va_P D cl ws H) (q0 t0 : Nat) {cA : ClassId} {n : Nat} {f : Nat → Int32} (ha : ws[q0]? = some (a, .inl (cA, n, .inl f))) (ht : tys[t0]? = some (cA, .int)) {i : Int32} {x : Int32} (hout : ¬ vp_in i n) (hdg : decode cc pc = .ok (.iastore, 1))
    (k : ∀ tx : String, tx = (toString "Index " ++ toString i ++ toString " out of bounds for length " ++ toString n : String) → vx_Note p l e R s m args below meth c H locs cells slots Q (F0 m pc ls rest) "java/lang/ArrayIndexOutOfBoundsException" tx) : W p l e R s m args below meth c H locs cells slots Q (F0 m pc ls (.int x :: .int i :: .ref a :: rest)) := by
  intro T hT X
  obtain ⟨t, st, q⟩ := k _ rfl T hT X
  refine ⟨t, ?_, q⟩
  have h1 := X.iastoreOut hexec (by rw [hT]; exact hP q0 _ ha) ((hK.2 t0 _ ht).1 n (fun j => .int (f j))) (j := i) (by show (i < 0 ∨ (arrV _ _ _).slots.size ≤ _); rw [arrV_size]; exact Classical.byContradiction hout) (g := F0 m pc ls (.int x :: .int i :: .ref a :: rest)) rfl (rest := rest) rfl (by rw [hb]; exact hdg) t
  simp only [arrV_size] at h1
  exact h1 st
theorem vx_baldZ {D : va_G} {cl : List vw_C} {ws : va_W} {tys : List (ClassId × FieldType)} {a : Nat} (hexec : p.tables.exec = Jvm.exec) (hb : c.code = cc) (hK : va_K D cl tys s) (hP : va_P D cl ws H) (q0 t0 : Nat) {cA : ClassId} {n : Nat} {f : Nat → Int32} (ha : ws[q0]? = some (a, .inl (cA, n, .inl f))) (ht : tys[t0]? = some (cA, .byte)) {i : Int32} (hout : ¬ vp_in i n) (hdg : decode cc pc = .ok (.baload, 1))
    (k : ∀ tx : String, tx = (toString "Index " ++ toString i ++ toString " out of bounds for length " ++ toString n : String) → vx_Note p l e R s m args below meth c H locs cells slots Q (F0 m pc ls rest) "java/lang/ArrayIndexOutOfBoundsException" tx) : W p l e R s m args below meth c H locs cells slots Q (F0 m pc ls (.int i :: .ref a :: rest)) := by
  intro T hT X
  obtain ⟨t, st, q⟩ := k _ rfl T hT X
  refine ⟨t, ?_, q⟩
  have h1 := X.baloadOut hexec (by rw [hT]; exact hP q0 _ ha) ((hK.2 t0 _ ht).1 n (fun j => .int (f j))) (j := i) (by show (i < 0 ∨ (arrV _ _ _).slots.size ≤ _); rw [arrV_size]; exact Classical.byContradiction hout) (g := F0 m pc ls (.int i :: .ref a :: rest)) rfl (rest := rest) rfl (by rw [hb]; exact hdg) t
  simp only [arrV_size] at h1
  exact h1 st
theorem vx_bastZ {D : va_G} {cl : List vw_C} {ws : va_W} {tys : List (ClassId × FieldType)} {a : Nat} (hexec : p.tables.exec = Jvm.exec) (hb : c.code = cc) (hK : va_K D cl tys s) (hP : va_P D cl ws H) (q0 t0 : Nat) {cA : ClassId} {n : Nat} {f : Nat → Int32} (ha : ws[q0]? = some (a, .inl (cA, n, .inl f))) (ht : tys[t0]? = some (cA, .byte)) {i : Int32} {x : Int32} (hout : ¬ vp_in i n) (hdg : decode cc pc = .ok (.bastore, 1))
    (k : ∀ tx : String, tx = (toString "Index " ++ toString i ++ toString " out of bounds for length " ++ toString n : String) → vx_Note p l e R s m args below meth c H locs cells slots Q (F0 m pc ls rest) "java/lang/ArrayIndexOutOfBoundsException" tx) : W p l e R s m args below meth c H locs cells slots Q (F0 m pc ls (.int x :: .int i :: .ref a :: rest)) := by
  intro T hT X
  obtain ⟨t, st, q⟩ := k _ rfl T hT X
  refine ⟨t, ?_, q⟩
  have h1 := X.bastoreOut hexec (by rw [hT]; exact hP q0 _ ha) ((hK.2 t0 _ ht).1 n (fun j => .int (f j))) (j := i) (by show (i < 0 ∨ (arrV _ _ _).slots.size ≤ _); rw [arrV_size]; exact Classical.byContradiction hout) (g := F0 m pc ls (.int x :: .int i :: .ref a :: rest)) rfl (rest := rest) rfl (by rw [hb]; exact hdg) t
  simp only [arrV_size] at h1
  exact h1 st
theorem vx_zaldZ {D : va_G} {cl : List vw_C} {ws : va_W} {tys : List (ClassId × FieldType)} {a : Nat} (hexec : p.tables.exec = Jvm.exec) (hb : c.code = cc) (hK : va_K D cl tys s) (hP : va_P D cl ws H) (q0 t0 : Nat) {cA : ClassId} {n : Nat} {f : Nat → Int32} (ha : ws[q0]? = some (a, .inl (cA, n, .inl f))) (ht : tys[t0]? = some (cA, .boolean)) {i : Int32} (hout : ¬ vp_in i n) (hdg : decode cc pc = .ok (.baload, 1))
    (k : ∀ tx : String, tx = (toString "Index " ++ toString i ++ toString " out of bounds for length " ++ toString n : String) → vx_Note p l e R s m args below meth c H locs cells slots Q (F0 m pc ls rest) "java/lang/ArrayIndexOutOfBoundsException" tx) : W p l e R s m args below meth c H locs cells slots Q (F0 m pc ls (.int i :: .ref a :: rest)) := by
  intro T hT X
  obtain ⟨t, st, q⟩ := k _ rfl T hT X
  refine ⟨t, ?_, q⟩
  have h1 := X.baloadOut hexec (by rw [hT]; exact hP q0 _ ha) ((hK.2 t0 _ ht).1 n (fun j => .int (f j))) (j := i) (by show (i < 0 ∨ (arrV _ _ _).slots.size ≤ _); rw [arrV_size]; exact Classical.byContradiction hout) (g := F0 m pc ls (.int i :: .ref a :: rest)) rfl (rest := rest) rfl (by rw [hb]; exact hdg) t
  simp only [arrV_size] at h1
  exact h1 st
theorem vx_zastZ {D : va_G} {cl : List vw_C} {ws : va_W} {tys : List (ClassId × FieldType)} {a : Nat} (hexec : p.tables.exec = Jvm.exec) (hb : c.code = cc) (hK : va_K D cl tys s) (hP : va_P D cl ws H) (q0 t0 : Nat) {cA : ClassId} {n : Nat} {f : Nat → Int32} (ha : ws[q0]? = some (a, .inl (cA, n, .inl f))) (ht : tys[t0]? = some (cA, .boolean)) {i : Int32} {x : Int32} (hout : ¬ vp_in i n) (hdg : decode cc pc = .ok (.bastore, 1))
    (k : ∀ tx : String, tx = (toString "Index " ++ toString i ++ toString " out of bounds for length " ++ toString n : String) → vx_Note p l e R s m args below meth c H locs cells slots Q (F0 m pc ls rest) "java/lang/ArrayIndexOutOfBoundsException" tx) : W p l e R s m args below meth c H locs cells slots Q (F0 m pc ls (.int x :: .int i :: .ref a :: rest)) := by
  intro T hT X
  obtain ⟨t, st, q⟩ := k _ rfl T hT X
  refine ⟨t, ?_, q⟩
  have h1 := X.bastoreOut hexec (by rw [hT]; exact hP q0 _ ha) ((hK.2 t0 _ ht).1 n (fun j => .int (f j))) (j := i) (by show (i < 0 ∨ (arrV _ _ _).slots.size ≤ _); rw [arrV_size]; exact Classical.byContradiction hout) (g := F0 m pc ls (.int x :: .int i :: .ref a :: rest)) rfl (rest := rest) rfl (by rw [hb]; exact hdg) t
  simp only [arrV_size] at h1
  exact h1 st
theorem vx_caldZ {D : va_G} {cl : List vw_C} {ws : va_W} {tys : List (ClassId × FieldType)} {a : Nat} (hexec : p.tables.exec = Jvm.exec) (hb : c.code = cc) (hK : va_K D cl tys s) (hP : va_P D cl ws H) (q0 t0 : Nat) {cA : ClassId} {n : Nat} {f : Nat → Int32} (ha : ws[q0]? = some (a, .inl (cA, n, .inl f))) (ht : tys[t0]? = some (cA, .char)) {i : Int32} (hout : ¬ vp_in i n) (hdg : decode cc pc = .ok (.caload, 1))
    (k : ∀ tx : String, tx = (toString "Index " ++ toString i ++ toString " out of bounds for length " ++ toString n : String) → vx_Note p l e R s m args below meth c H locs cells slots Q (F0 m pc ls rest) "java/lang/ArrayIndexOutOfBoundsException" tx) : W p l e R s m args below meth c H locs cells slots Q (F0 m pc ls (.int i :: .ref a :: rest)) := by
  intro T hT X
  obtain ⟨t, st, q⟩ := k _ rfl T hT X
  refine ⟨t, ?_, q⟩
  have h1 := X.caloadOut hexec (by rw [hT]; exact hP q0 _ ha) ((hK.2 t0 _ ht).1 n (fun j => .int (f j))) (j := i) (by show (i < 0 ∨ (arrV _ _ _).slots.size ≤ _); rw [arrV_size]; exact Classical.byContradiction hout) (g := F0 m pc ls (.int i :: .ref a :: rest)) rfl (rest := rest) rfl (by rw [hb]; exact hdg) t
  simp only [arrV_size] at h1
  exact h1 st
theorem vx_castZ {D : va_G} {cl : List vw_C} {ws : va_W} {tys : List (ClassId × FieldType)} {a : Nat} (hexec : p.tables.exec = Jvm.exec) (hb : c.code = cc) (hK : va_K D cl tys s) (hP : va_P D cl ws H) (q0 t0 : Nat) {cA : ClassId} {n : Nat} {f : Nat → Int32} (ha : ws[q0]? = some (a, .inl (cA, n, .inl f))) (ht : tys[t0]? = some (cA, .char)) {i : Int32} {x : Int32} (hout : ¬ vp_in i n) (hdg : decode cc pc = .ok (.castore, 1))
    (k : ∀ tx : String, tx = (toString "Index " ++ toString i ++ toString " out of bounds for length " ++ toString n : String) → vx_Note p l e R s m args below meth c H locs cells slots Q (F0 m pc ls rest) "java/lang/ArrayIndexOutOfBoundsException" tx) : W p l e R s m args below meth c H locs cells slots Q (F0 m pc ls (.int x :: .int i :: .ref a :: rest)) := by
  intro T hT X
  obtain ⟨t, st, q⟩ := k _ rfl T hT X
  refine ⟨t, ?_, q⟩
  have h1 := X.castoreOut hexec (by rw [hT]; exact hP q0 _ ha) ((hK.2 t0 _ ht).1 n (fun j => .int (f j))) (j := i) (by show (i < 0 ∨ (arrV _ _ _).slots.size ≤ _); rw [arrV_size]; exact Classical.byContradiction hout) (g := F0 m pc ls (.int x :: .int i :: .ref a :: rest)) rfl (rest := rest) rfl (by rw [hb]; exact hdg) t
  simp only [arrV_size] at h1
  exact h1 st
theorem vx_saldZ {D : va_G} {cl : List vw_C} {ws : va_W} {tys : List (ClassId × FieldType)} {a : Nat} (hexec : p.tables.exec = Jvm.exec) (hb : c.code = cc) (hK : va_K D cl tys s) (hP : va_P D cl ws H) (q0 t0 : Nat) {cA : ClassId} {n : Nat} {f : Nat → Int32} (ha : ws[q0]? = some (a, .inl (cA, n, .inl f))) (ht : tys[t0]? = some (cA, .short)) {i : Int32} (hout : ¬ vp_in i n) (hdg : decode cc pc = .ok (.saload, 1))
    (k : ∀ tx : String, tx = (toString "Index " ++ toString i ++ toString " out of bounds for length " ++ toString n : String) → vx_Note p l e R s m args below meth c H locs cells slots Q (F0 m pc ls rest) "java/lang/ArrayIndexOutOfBoundsException" tx) : W p l e R s m args below meth c H locs cells slots Q (F0 m pc ls (.int i :: .ref a :: rest)) := by
  intro T hT X
  obtain ⟨t, st, q⟩ := k _ rfl T hT X
  refine ⟨t, ?_, q⟩
  have h1 := X.saloadOut hexec (by rw [hT]; exact hP q0 _ ha) ((hK.2 t0 _ ht).1 n (fun j => .int (f j))) (j := i) (by show (i < 0 ∨ (arrV _ _ _).slots.size ≤ _); rw [arrV_size]; exact Classical.byContradiction hout) (g := F0 m pc ls (.int i :: .ref a :: rest)) rfl (rest := rest) rfl (by rw [hb]; exact hdg) t
  simp only [arrV_size] at h1
  exact h1 st
theorem vx_sastZ {D : va_G} {cl : List vw_C} {ws : va_W} {tys : List (ClassId × FieldType)} {a : Nat} (hexec : p.tables.exec = Jvm.exec) (hb : c.code = cc) (hK : va_K D cl tys s) (hP : va_P D cl ws H) (q0 t0 : Nat) {cA : ClassId} {n : Nat} {f : Nat → Int32} (ha : ws[q0]? = some (a, .inl (cA, n, .inl f))) (ht : tys[t0]? = some (cA, .short)) {i : Int32} {x : Int32} (hout : ¬ vp_in i n) (hdg : decode cc pc = .ok (.sastore, 1))
    (k : ∀ tx : String, tx = (toString "Index " ++ toString i ++ toString " out of bounds for length " ++ toString n : String) → vx_Note p l e R s m args below meth c H locs cells slots Q (F0 m pc ls rest) "java/lang/ArrayIndexOutOfBoundsException" tx) : W p l e R s m args below meth c H locs cells slots Q (F0 m pc ls (.int x :: .int i :: .ref a :: rest)) := by
  intro T hT X
  obtain ⟨t, st, q⟩ := k _ rfl T hT X
  refine ⟨t, ?_, q⟩
  have h1 := X.sastoreOut hexec (by rw [hT]; exact hP q0 _ ha) ((hK.2 t0 _ ht).1 n (fun j => .int (f j))) (j := i) (by show (i < 0 ∨ (arrV _ _ _).slots.size ≤ _); rw [arrV_size]; exact Classical.byContradiction hout) (g := F0 m pc ls (.int x :: .int i :: .ref a :: rest)) rfl (rest := rest) rfl (by rw [hb]; exact hdg) t
  simp only [arrV_size] at h1
  exact h1 st
theorem vx_laldZ {D : va_G} {cl : List vw_C} {ws : va_W} {tys : List (ClassId × FieldType)} {a : Nat} (hexec : p.tables.exec = Jvm.exec) (hb : c.code = cc) (hK : va_K D cl tys s) (hP : va_P D cl ws H) (q0 t0 : Nat) {cA : ClassId} {n : Nat} {f : Nat → Int64} (ha : ws[q0]? = some (a, .inl (cA, n, .inr (.inl f)))) (ht : tys[t0]? = some (cA, .long)) {i : Int32} (hout : ¬ vp_in i n) (hdg : decode cc pc = .ok (.laload, 1))
    (k : ∀ tx : String, tx = (toString "Index " ++ toString i ++ toString " out of bounds for length " ++ toString n : String) → vx_Note p l e R s m args below meth c H locs cells slots Q (F0 m pc ls rest) "java/lang/ArrayIndexOutOfBoundsException" tx) : W p l e R s m args below meth c H locs cells slots Q (F0 m pc ls (.int i :: .ref a :: rest)) := by
  intro T hT X
  obtain ⟨t, st, q⟩ := k _ rfl T hT X
  refine ⟨t, ?_, q⟩
  have h1 := X.laloadOut hexec (by rw [hT]; exact hP q0 _ ha) ((hK.2 t0 _ ht).1 n (fun j => .long (f j))) (j := i) (by show (i < 0 ∨ (arrV _ _ _).slots.size ≤ _); rw [arrV_size]; exact Classical.byContradiction hout) (g := F0 m pc ls (.int i :: .ref a :: rest)) rfl (rest := rest) rfl (by rw [hb]; exact hdg) t
  simp only [arrV_size] at h1
  exact h1 st
theorem vx_lastZ {D : va_G} {cl : List vw_C} {ws : va_W} {tys : List (ClassId × FieldType)} {a : Nat} (hexec : p.tables.exec = Jvm.exec) (hb : c.code = cc) (hK : va_K D cl tys s) (hP : va_P D cl ws H) (q0 t0 : Nat) {cA : ClassId} {n : Nat} {f : Nat → Int64} (ha : ws[q0]? = some (a, .inl (cA, n, .inr (.inl f)))) (ht : tys[t0]? = some (cA, .long)) {i : Int32} {x : Int64} (hout : ¬ vp_in i n) (hdg : decode cc pc = .ok (.lastore, 1))
    (k : ∀ tx : String, tx = (toString "Index " ++ toString i ++ toString " out of bounds for length " ++ toString n : String) → vx_Note p l e R s m args below meth c H locs cells slots Q (F0 m pc ls rest) "java/lang/ArrayIndexOutOfBoundsException" tx) : W p l e R s m args below meth c H locs cells slots Q (F0 m pc ls (.long x :: .int i :: .ref a :: rest)) := by
  intro T hT X
  obtain ⟨t, st, q⟩ := k _ rfl T hT X
  refine ⟨t, ?_, q⟩
  have h1 := X.lastoreOut hexec (by rw [hT]; exact hP q0 _ ha) ((hK.2 t0 _ ht).1 n (fun j => .long (f j))) (j := i) (by show (i < 0 ∨ (arrV _ _ _).slots.size ≤ _); rw [arrV_size]; exact Classical.byContradiction hout) (g := F0 m pc ls (.long x :: .int i :: .ref a :: rest)) rfl (rest := rest) rfl (by rw [hb]; exact hdg) t
  simp only [arrV_size] at h1
  exact h1 st
theorem vx_faldZ {D : va_G} {cl : List vw_C} {ws : va_W} {tys : List (ClassId × FieldType)} {a : Nat} (hexec : p.tables.exec = Jvm.exec) (hb : c.code = cc) (hK : va_K D cl tys s) (hP : va_P D cl ws H) (q0 t0 : Nat) {cA : ClassId} {n : Nat} {f : Nat → UInt32} (ha : ws[q0]? = some (a, .inl (cA, n, .inr (.inr (.inl f))))) (ht : tys[t0]? = some (cA, .float)) {i : Int32} (hout : ¬ vp_in i n) (hdg : decode cc pc = .ok (.faload, 1))
    (k : ∀ tx : String, tx = (toString "Index " ++ toString i ++ toString " out of bounds for length " ++ toString n : String) → vx_Note p l e R s m args below meth c H locs cells slots Q (F0 m pc ls rest) "java/lang/ArrayIndexOutOfBoundsException" tx) : W p l e R s m args below meth c H locs cells slots Q (F0 m pc ls (.int i :: .ref a :: rest)) := by
  intro T hT X
  obtain ⟨t, st, q⟩ := k _ rfl T hT X
  refine ⟨t, ?_, q⟩
  have h1 := X.faloadOut hexec (by rw [hT]; exact hP q0 _ ha) ((hK.2 t0 _ ht).1 n (fun j => .float (f j))) (j := i) (by show (i < 0 ∨ (arrV _ _ _).slots.size ≤ _); rw [arrV_size]; exact Classical.byContradiction hout) (g := F0 m pc ls (.int i :: .ref a :: rest)) rfl (rest := rest) rfl (by rw [hb]; exact hdg) t
  simp only [arrV_size] at h1
  exact h1 st
theorem vx_fastZ {D : va_G} {cl : List vw_C} {ws : va_W} {tys : List (ClassId × FieldType)} {a : Nat} (hexec : p.tables.exec = Jvm.exec) (hb : c.code = cc) (hK : va_K D cl tys s) (hP : va_P D cl ws H) (q0 t0 : Nat) {cA : ClassId} {n : Nat} {f : Nat → UInt32} (ha : ws[q0]? = some (a, .inl (cA, n, .inr (.inr (.inl f))))) (ht : tys[t0]? = some (cA, .float)) {i : Int32} {x : UInt32} (hout : ¬ vp_in i n) (hdg : decode cc pc = .ok (.fastore, 1))
    (k : ∀ tx : String, tx = (toString "Index " ++ toString i ++ toString " out of bounds for length " ++ toString n : String) → vx_Note p l e R s m args below meth c H locs cells slots Q (F0 m pc ls rest) "java/lang/ArrayIndexOutOfBoundsException" tx) : W p l e R s m args below meth c H locs cells slots Q (F0 m pc ls (.float x :: .int i :: .ref a :: rest)) := by
  intro T hT X
  obtain ⟨t, st, q⟩ := k _ rfl T hT X
  refine ⟨t, ?_, q⟩
  have h1 := X.fastoreOut hexec (by rw [hT]; exact hP q0 _ ha) ((hK.2 t0 _ ht).1 n (fun j => .float (f j))) (j := i) (by show (i < 0 ∨ (arrV _ _ _).slots.size ≤ _); rw [arrV_size]; exact Classical.byContradiction hout) (g := F0 m pc ls (.float x :: .int i :: .ref a :: rest)) rfl (rest := rest) rfl (by rw [hb]; exact hdg) t
  simp only [arrV_size] at h1
  exact h1 st
theorem vx_daldZ {D : va_G} {cl : List vw_C} {ws : va_W} {tys : List (ClassId × FieldType)} {a : Nat} (hexec : p.tables.exec = Jvm.exec) (hb : c.code = cc) (hK : va_K D cl tys s) (hP : va_P D cl ws H) (q0 t0 : Nat) {cA : ClassId} {n : Nat} {f : Nat → UInt64} (ha : ws[q0]? = some (a, .inl (cA, n, .inr (.inr (.inr (.inl f)))))) (ht : tys[t0]? = some (cA, .double)) {i : Int32} (hout : ¬ vp_in i n) (hdg : decode cc pc = .ok (.daload, 1))
    (k : ∀ tx : String, tx = (toString "Index " ++ toString i ++ toString " out of bounds for length " ++ toString n : String) → vx_Note p l e R s m args below meth c H locs cells slots Q (F0 m pc ls rest) "java/lang/ArrayIndexOutOfBoundsException" tx) : W p l e R s m args below meth c H locs cells slots Q (F0 m pc ls (.int i :: .ref a :: rest)) := by
  intro T hT X
  obtain ⟨t, st, q⟩ := k _ rfl T hT X
  refine ⟨t, ?_, q⟩
  have h1 := X.daloadOut hexec (by rw [hT]; exact hP q0 _ ha) ((hK.2 t0 _ ht).1 n (fun j => .double (f j))) (j := i) (by show (i < 0 ∨ (arrV _ _ _).slots.size ≤ _); rw [arrV_size]; exact Classical.byContradiction hout) (g := F0 m pc ls (.int i :: .ref a :: rest)) rfl (rest := rest) rfl (by rw [hb]; exact hdg) t
  simp only [arrV_size] at h1
  exact h1 st
theorem vx_dastZ {D : va_G} {cl : List vw_C} {ws : va_W} {tys : List (ClassId × FieldType)} {a : Nat} (hexec : p.tables.exec = Jvm.exec) (hb : c.code = cc) (hK : va_K D cl tys s) (hP : va_P D cl ws H) (q0 t0 : Nat) {cA : ClassId} {n : Nat} {f : Nat → UInt64} (ha : ws[q0]? = some (a, .inl (cA, n, .inr (.inr (.inr (.inl f)))))) (ht : tys[t0]? = some (cA, .double)) {i : Int32} {x : UInt64} (hout : ¬ vp_in i n) (hdg : decode cc pc = .ok (.dastore, 1))
    (k : ∀ tx : String, tx = (toString "Index " ++ toString i ++ toString " out of bounds for length " ++ toString n : String) → vx_Note p l e R s m args below meth c H locs cells slots Q (F0 m pc ls rest) "java/lang/ArrayIndexOutOfBoundsException" tx) : W p l e R s m args below meth c H locs cells slots Q (F0 m pc ls (.double x :: .int i :: .ref a :: rest)) := by
  intro T hT X
  obtain ⟨t, st, q⟩ := k _ rfl T hT X
  refine ⟨t, ?_, q⟩
  have h1 := X.dastoreOut hexec (by rw [hT]; exact hP q0 _ ha) ((hK.2 t0 _ ht).1 n (fun j => .double (f j))) (j := i) (by show (i < 0 ∨ (arrV _ _ _).slots.size ≤ _); rw [arrV_size]; exact Classical.byContradiction hout) (g := F0 m pc ls (.double x :: .int i :: .ref a :: rest)) rfl (rest := rest) rfl (by rw [hb]; exact hdg) t
  simp only [arrV_size] at h1
  exact h1 st
theorem vx_arraylengthN (hexec : p.tables.exec = Jvm.exec) (hb : c.code = cc) (hdg : decode cc pc = .ok (.arraylength, 1)) (k : vx_NoteN p l e R s m args below meth c H locs cells slots Q (F0 m pc ls rest)) : W p l e R s m args below meth c H locs cells slots Q (F0 m pc ls (.null :: rest)) := by
  intro T hT X
  obtain ⟨t, st, q⟩ := k T hT X
  exact ⟨t, X.arraylengthNull hexec (g := F0 m pc ls (.null :: rest)) rfl (rest := rest) rfl (by rw [hb]; exact hdg) t st, q⟩
theorem vx_ialoadN (hexec : p.tables.exec = Jvm.exec) (hb : c.code = cc) {i : Int32} (hdg : decode cc pc = .ok (.iaload, 1)) (k : vx_NoteN p l e R s m args below meth c H locs cells slots Q (F0 m pc ls rest)) : W p l e R s m args below meth c H locs cells slots Q (F0 m pc ls (.int i :: .null :: rest)) := by
  intro T hT X
  obtain ⟨t, st, q⟩ := k T hT X
  exact ⟨t, X.ialoadNull hexec (g := F0 m pc ls (.int i :: .null :: rest)) rfl (rest := rest) rfl (by rw [hb]; exact hdg) t st, q⟩
theorem vx_laloadN (hexec : p.tables.exec = Jvm.exec) (hb : c.code = cc) {i : Int32} (hdg : decode cc pc = .ok (.laload, 1)) (k : vx_NoteN p l e R s m args below meth c H locs cells slots Q (F0 m pc ls rest)) : W p l e R s m args below meth c H locs cells slots Q (F0 m pc ls (.int i :: .null :: rest)) := by
  intro T hT X
  obtain ⟨t, st, q⟩ := k T hT X
  exact ⟨t, X.laloadNull hexec (g := F0 m pc ls (.int i :: .null :: rest)) rfl (rest := rest) rfl (by rw [hb]; exact hdg) t st, q⟩
theorem vx_faloadN (hexec : p.tables.exec = Jvm.exec) (hb : c.code = cc) {i : Int32} (hdg : decode cc pc = .ok (.faload, 1)) (k : vx_NoteN p l e R s m args below meth c H locs cells slots Q (F0 m pc ls rest)) : W p l e R s m args below meth c H locs cells slots Q (F0 m pc ls (.int i :: .null :: rest)) := by
  intro T hT X
  obtain ⟨t, st, q⟩ := k T hT X
  exact ⟨t, X.faloadNull hexec (g := F0 m pc ls (.int i :: .null :: rest)) rfl (rest := rest) rfl (by rw [hb]; exact hdg) t st, q⟩
theorem vx_daloadN (hexec : p.tables.exec = Jvm.exec) (hb : c.code = cc) {i : Int32} (hdg : decode cc pc = .ok (.daload, 1)) (k : vx_NoteN p l e R s m args below meth c H locs cells slots Q (F0 m pc ls rest)) : W p l e R s m args below meth c H locs cells slots Q (F0 m pc ls (.int i :: .null :: rest)) := by
  intro T hT X
  obtain ⟨t, st, q⟩ := k T hT X
  exact ⟨t, X.daloadNull hexec (g := F0 m pc ls (.int i :: .null :: rest)) rfl (rest := rest) rfl (by rw [hb]; exact hdg) t st, q⟩
theorem vx_aaloadN (hexec : p.tables.exec = Jvm.exec) (hb : c.code = cc) {i : Int32} (hdg : decode cc pc = .ok (.aaload, 1)) (k : vx_NoteN p l e R s m args below meth c H locs cells slots Q (F0 m pc ls rest)) : W p l e R s m args below meth c H locs cells slots Q (F0 m pc ls (.int i :: .null :: rest)) := by
  intro T hT X
  obtain ⟨t, st, q⟩ := k T hT X
  exact ⟨t, X.aaloadNull hexec (g := F0 m pc ls (.int i :: .null :: rest)) rfl (rest := rest) rfl (by rw [hb]; exact hdg) t st, q⟩
theorem vx_baloadN (hexec : p.tables.exec = Jvm.exec) (hb : c.code = cc) {i : Int32} (hdg : decode cc pc = .ok (.baload, 1)) (k : vx_NoteN p l e R s m args below meth c H locs cells slots Q (F0 m pc ls rest)) : W p l e R s m args below meth c H locs cells slots Q (F0 m pc ls (.int i :: .null :: rest)) := by
  intro T hT X
  obtain ⟨t, st, q⟩ := k T hT X
  exact ⟨t, X.baloadNull hexec (g := F0 m pc ls (.int i :: .null :: rest)) rfl (rest := rest) rfl (by rw [hb]; exact hdg) t st, q⟩
theorem vx_caloadN (hexec : p.tables.exec = Jvm.exec) (hb : c.code = cc) {i : Int32} (hdg : decode cc pc = .ok (.caload, 1)) (k : vx_NoteN p l e R s m args below meth c H locs cells slots Q (F0 m pc ls rest)) : W p l e R s m args below meth c H locs cells slots Q (F0 m pc ls (.int i :: .null :: rest)) := by
  intro T hT X
  obtain ⟨t, st, q⟩ := k T hT X
  exact ⟨t, X.caloadNull hexec (g := F0 m pc ls (.int i :: .null :: rest)) rfl (rest := rest) rfl (by rw [hb]; exact hdg) t st, q⟩
theorem vx_saloadN (hexec : p.tables.exec = Jvm.exec) (hb : c.code = cc) {i : Int32} (hdg : decode cc pc = .ok (.saload, 1)) (k : vx_NoteN p l e R s m args below meth c H locs cells slots Q (F0 m pc ls rest)) : W p l e R s m args below meth c H locs cells slots Q (F0 m pc ls (.int i :: .null :: rest)) := by
  intro T hT X
  obtain ⟨t, st, q⟩ := k T hT X
  exact ⟨t, X.saloadNull hexec (g := F0 m pc ls (.int i :: .null :: rest)) rfl (rest := rest) rfl (by rw [hb]; exact hdg) t st, q⟩
theorem vx_iastoreN (hexec : p.tables.exec = Jvm.exec) (hb : c.code = cc) {x : Int32} {i : Int32} (hdg : decode cc pc = .ok (.iastore, 1)) (k : vx_NoteN p l e R s m args below meth c H locs cells slots Q (F0 m pc ls rest)) : W p l e R s m args below meth c H locs cells slots Q (F0 m pc ls (.int x :: .int i :: .null :: rest)) := by
  intro T hT X
  obtain ⟨t, st, q⟩ := k T hT X
  exact ⟨t, X.iastoreNull hexec (g := F0 m pc ls (.int x :: .int i :: .null :: rest)) rfl (rest := rest) rfl (by rw [hb]; exact hdg) t st, q⟩
theorem vx_lastoreN (hexec : p.tables.exec = Jvm.exec) (hb : c.code = cc) {x : Int64} {i : Int32} (hdg : decode cc pc = .ok (.lastore, 1)) (k : vx_NoteN p l e R s m args below meth c H locs cells slots Q (F0 m pc ls rest)) : W p l e R s m args below meth c H locs cells slots Q (F0 m pc ls (.long x :: .int i :: .null :: rest)) := by
  intro T hT X
  obtain ⟨t, st, q⟩ := k T hT X
  exact ⟨t, X.lastoreNull hexec (g := F0 m pc ls (.long x :: .int i :: .null :: rest)) rfl (rest := rest) rfl (by rw [hb]; exact hdg) t st, q⟩
theorem vx_fastoreN (hexec : p.tables.exec = Jvm.exec) (hb : c.code = cc) {x : UInt32} {i : Int32} (hdg : decode cc pc = .ok (.fastore, 1)) (k : vx_NoteN p l e R s m args below meth c H locs cells slots Q (F0 m pc ls rest)) : W p l e R s m args below meth c H locs cells slots Q (F0 m pc ls (.float x :: .int i :: .null :: rest)) := by
  intro T hT X
  obtain ⟨t, st, q⟩ := k T hT X
  exact ⟨t, X.fastoreNull hexec (g := F0 m pc ls (.float x :: .int i :: .null :: rest)) rfl (rest := rest) rfl (by rw [hb]; exact hdg) t st, q⟩
theorem vx_dastoreN (hexec : p.tables.exec = Jvm.exec) (hb : c.code = cc) {x : UInt64} {i : Int32} (hdg : decode cc pc = .ok (.dastore, 1)) (k : vx_NoteN p l e R s m args below meth c H locs cells slots Q (F0 m pc ls rest)) : W p l e R s m args below meth c H locs cells slots Q (F0 m pc ls (.double x :: .int i :: .null :: rest)) := by
  intro T hT X
  obtain ⟨t, st, q⟩ := k T hT X
  exact ⟨t, X.dastoreNull hexec (g := F0 m pc ls (.double x :: .int i :: .null :: rest)) rfl (rest := rest) rfl (by rw [hb]; exact hdg) t st, q⟩
theorem vx_bastoreN (hexec : p.tables.exec = Jvm.exec) (hb : c.code = cc) {x : Int32} {i : Int32} (hdg : decode cc pc = .ok (.bastore, 1)) (k : vx_NoteN p l e R s m args below meth c H locs cells slots Q (F0 m pc ls rest)) : W p l e R s m args below meth c H locs cells slots Q (F0 m pc ls (.int x :: .int i :: .null :: rest)) := by
  intro T hT X
  obtain ⟨t, st, q⟩ := k T hT X
  exact ⟨t, X.bastoreNull hexec (g := F0 m pc ls (.int x :: .int i :: .null :: rest)) rfl (rest := rest) rfl (by rw [hb]; exact hdg) t st, q⟩
theorem vx_castoreN (hexec : p.tables.exec = Jvm.exec) (hb : c.code = cc) {x : Int32} {i : Int32} (hdg : decode cc pc = .ok (.castore, 1)) (k : vx_NoteN p l e R s m args below meth c H locs cells slots Q (F0 m pc ls rest)) : W p l e R s m args below meth c H locs cells slots Q (F0 m pc ls (.int x :: .int i :: .null :: rest)) := by
  intro T hT X
  obtain ⟨t, st, q⟩ := k T hT X
  exact ⟨t, X.castoreNull hexec (g := F0 m pc ls (.int x :: .int i :: .null :: rest)) rfl (rest := rest) rfl (by rw [hb]; exact hdg) t st, q⟩
theorem vx_sastoreN (hexec : p.tables.exec = Jvm.exec) (hb : c.code = cc) {x : Int32} {i : Int32} (hdg : decode cc pc = .ok (.sastore, 1)) (k : vx_NoteN p l e R s m args below meth c H locs cells slots Q (F0 m pc ls rest)) : W p l e R s m args below meth c H locs cells slots Q (F0 m pc ls (.int x :: .int i :: .null :: rest)) := by
  intro T hT X
  obtain ⟨t, st, q⟩ := k T hT X
  exact ⟨t, X.sastoreNull hexec (g := F0 m pc ls (.int x :: .int i :: .null :: rest)) rfl (rest := rest) rfl (by rw [hb]; exact hdg) t st, q⟩
theorem vx_invokeN {own C : String} {index maxL : Nat} {y : MethodName} {bytes : ByteArray} {ret : Option FieldType} (hexec : p.tables.exec = Jvm.exec) (hb : c.code = cc) (hown : s.vm.findClass own = some m.cls) (hlink : (Cond.methodLink own index y).before args s = true) (hinst : (Cond.instanceMethod y).before args s = true) (hcode : (Cond.code y bytes maxL ret).before args s = true) (hsel : (Cond.selects C y y).before args s = true)
    (hx : y.cls ≠ "java/lang/invoke/MethodHandle" ∧ y.cls ≠ "java/lang/invoke/VarHandle") {As : List Value} (hlen : (parseMethodDescriptor y.desc).map (fun d => d.parameters.length) = some As.length) (hdg : decode cc pc = .ok (.invokevirtual index, 3))
    (k : vx_NoteN p l e R s m args below meth c H locs cells slots Q (F0 m pc ls rest)) {st0 : List Value} (hst : st0 = As.reverse ++ .null :: rest) : W p l e R s m args below meth c H locs cells slots Q (F0 m pc ls st0) := by
  intro T hT X
  obtain ⟨r0, r, hn, hrm, hstR, hsigR⟩ := va_Decl.of hinst hcode
  obtain ⟨c2, r2, m2, q1, q2, q3, q4, kP, hkP, hkPi⟩ := Cond.selects_spec hsel
  cases hn.symm.trans q3
  have hl9 : As.length = r.sig.parameters.length := by
    rw [hsigR] at hlen
    exact (Option.some.inj hlen).symm
  obtain ⟨vm', X1, st1⟩ := X.invokevirtualNull hexec hown hlink hn hrm hstR hkP hkPi hx (g := F0 m pc ls st0) rfl (argsL := As) (rest := rest) hl9 hst (by rw [hb]; exact hdg)
  obtain ⟨t, st, q⟩ := k (T.setVm vm') hT X1
  exact ⟨t, st1 t st, q⟩
theorem vx_newarrayZ {atype : ArrayType} (hexec : p.tables.exec = Jvm.exec) (hb : c.code = cc) {n : Int32} (h0 : n < 0) (hdg : decode cc pc = .ok (.newarray atype, 2)) (k : ∀ tx : String, tx = toString n → vx_Note p l e R s m args below meth c H locs cells slots Q (F0 m pc ls rest) "java/lang/NegativeArraySizeException" tx) : W p l e R s m args below meth c H locs cells slots Q (F0 m pc ls (.int n :: rest)) := by
  intro T hT X
  obtain ⟨t, st, q⟩ := k _ rfl T hT X
  exact ⟨t, X.newarrayNegative hexec (g := F0 m pc ls (.int n :: rest)) rfl h0 (rest := rest) rfl (by rw [hb]; exact hdg) t st, q⟩
end
end VXM
/-! ===== END ===== -/
/-! ===== BEGIN an exception as an object: made, kept, thrown later (no traces kept) ===== -/
section VXK
variable {p : Program} {l : Launch} {e : Env} {R : Room} {s : State} {m₀ : MethodId} {args : Array Value} {below : List Frame} {meth : Method} {c : Code} {W : State} {locs : List Loc} {cells slots : Nat}
set_option maxHeartbeats 1000000 in
theorem vx_ctorMadeS (X : Stand p l e R s m₀ args below meth c W locs cells slots) (hexec : p.tables.exec = Jvm.exec) (htr : e.platform.stackTraces = false) {own cls : String} {names : List String} {ic : Nat}
    (hown : s.vm.findClass own = some m₀.cls) (hcls : Bundle.fit cls = true) (hnames : ∀ n ∈ names, Bundle.fit n = true)
    (h : ∀ a ∈ Bundle.ownAtoms own ic cls names, a.before args s = true)
    (hlocs : ∀ x ∈ locs, ∀ cell, s.heap[x.base]? = some cell → cell.vm.isStatics = false)
    {a : Addr} {cX : ClassId} {kX : Class} (hfoundX : s.vm.findClass cls = some cX) (hkX : s.vm.classes[cX]? = some kX) (hcell : W.heap[a]? = some (freshCell cX kX)) (hnew : s.heap.size ≤ a)
    {msg : Value} (hmsg : msg.isRef = true)
    {g : JFrame} (hg : g.method = m₀) (hsize : g.locals.size = c.maxLocals) {rest : List Value} (hstack : g.stack = msg :: .ref a :: .ref a :: rest)
    (hd6 : decode c.code g.pc = .ok (.invokespecial ic, 3))
    (hRframes : names.length + 3 < R.frames) (hRlocals : 2 * g.monitorRoom + ((Value.ref a :: rest).map fun v => v.category).sum + (13 * (names.length + 1) + 42) ≤ R.locals) :
    ∃ (V : State) (ce : Cell) (L : List Loc), Stand p l e R s m₀ args below meth c (V.setCell a ce) (locs ++ L) cells slots ∧ (∀ y ∈ L, y.base = a) ∧ a < V.heap.size ∧ ce.cls = cX ∧ ce.vm = .none ∧
      ∀ target, Steps p.tables e below ((V.setCell a ce).setTop { g with stack := .ref a :: rest, pc := g.pc + 3 }) target → Steps p.tables e below (W.setTop g) target := by
  have howns : e.platform.frameOwnsMonitors = true := by rw [X.admits.platform]
  have hfin : e.platform.finalization = false := by rw [X.admits.platform]
  have hpl : e.platform.magicAccessors = ({} : Platform).magicAccessors := by rw [X.admits.platform]
  have a' : ∀ x, x ∈ Bundle.ownAtoms own ic cls names → x.holds args s none s [] = true := fun x hx => h x hx
  obtain ⟨T, Z0, L, -, Y⟩ := ThrowableC.of_atoms (args := args) howns hfin hpl (fun x hx => h x (by simp [Bundle.ownAtoms, hx]))
  obtain ⟨Z, M, LZ, LM, hnZ⟩ := Init0T.ofS_atoms (args := args) hpl L Y (fun x hx => h x (by simp [Bundle.ownAtoms, hx]))
  obtain ⟨P1, Ps, hlen, L1, hL, hP1m, hlink1, hlink⟩ := Bundle.chainS (args := args) hpl hnZ names cls hcls hnames (fun x hx => h x (by simp [Bundle.ownAtoms, hx]))
  have hfound : s.vm.findClass cls = some P1.m.cls := findClass_of_methodNamed hP1m
  cases Option.some.inj (hfoundX.symm.trans hfound)
  obtain ⟨c1, kX', hc1, hk, hord, -, -, hn6⟩ := Cond.instantiable_spec (a' (.instantiable cls 6) (by simp [Bundle.ownAtoms]))
  cases Option.some.inj (hc1.symm.trans hfound)
  cases Option.some.inj (hkX.symm.trans hk)
  have hsel0 : selectMethod e.platform s.vm P1.m.cls T.fill0 = .method T.fill0 := by
    obtain ⟨c2, r2, m2, q1, q2, q3, q4, -⟩ := Cond.selects_spec (a' (.selects cls Bundle.tFill0 Bundle.tFill0) (by simp [Bundle.ownAtoms]))
    cases Option.some.inj (q1.symm.trans hfound)
    cases Option.some.inj (q2.symm.trans (State.methodFound?_of_named Y.fill0 (by decide)))
    cases Option.some.inj (q3.symm.trans Y.fill0)
    rw [Launch.admits_selectMethod X.admits]; exact q4
  have hselF : selectMethod e.platform s.vm P1.m.cls T.fill = .method T.fill := by
    obtain ⟨c2, r2, m2, q1, q2, q3, q4, -⟩ := Cond.selects_spec (a' (.selects cls Bundle.tFill Bundle.tFill) (by simp [Bundle.ownAtoms]))
    cases Option.some.inj (q1.symm.trans hfound)
    cases Option.some.inj (q2.symm.trans (State.methodFound?_of_named Y.fill (by decide)))
    cases Option.some.inj (q3.symm.trans Y.fill)
    rw [Launch.admits_selectMethod X.admits]; exact q4
  obtain ⟨cellS0, hcS0, hiss⟩ := Y.statics
  obtain ⟨u0, hu0⟩ := Cond.staticRefV Y.unassigned L.unassignedStatic L.statics hcS0 hiss (a' (.isRef (.static Bundle.tN "UNASSIGNED_STACK" Bundle.steD)) (by simp [Bundle.ownAtoms]))
  obtain ⟨sen, hsen⟩ := Cond.staticRefV Y.sentinel L.sentinelStatic L.statics hcS0 hiss (a' (.isRef (.static Bundle.tN "SUPPRESSED_SENTINEL" Bundle.listD)) (by simp [Bundle.ownAtoms]))
  obtain ⟨ci198, i198, fB, hk198, hg198, ha198, hsB, -, hnB, htB, hffB⟩ := Cond.ownField (t := .object "java/lang/Object") Y.found L.cls (by decide +kernel) (a' (.fieldLink Bundle.tN 198 Bundle.tN "backtrace" "Ljava/lang/Object;") (by simp [Bundle.ownAtoms])) (a' (.lays Bundle.tN Bundle.tN "backtrace" "Ljava/lang/Object;") (by simp [Bundle.ownAtoms])) e.platform hpl
  obtain ⟨cellS, hcS', heS, -, hkeep⟩ := X.same.2.2.2.2.2 T.aS cellS0 hcS0
  have hcellS : W.heap[T.aS]? = some cellS := hcS'
  have hout' : ∀ i, (⟨T.aS, i⟩ : Loc) ∉ locs := fun i hmem => by
    have := hlocs _ hmem cellS0 hcS0
    rw [hiss] at this; cases this
  have hknownS : cellS.vm ≠ .unknown := by
    rw [heS]; intro hu
    rw [show cellS0.vm = .unknown from hu] at hiss
    cases hiss
  have hneS : T.aS ≠ a := Nat.ne_of_lt (Nat.lt_of_lt_of_le (Array.getElem?_eq_some_iff.mp hcS0).1 hnew)
  obtain ⟨iM, hffM⟩ := Y.msg
  obtain ⟨tyC, dC, hdC, hdnC⟩ := Cond.laysAt hfound hk Y.cause (a' (.lays cls Bundle.tN "cause" "Ljava/lang/Throwable;") (by simp [Bundle.ownAtoms]))
  obtain ⟨tyS, dS, hdS, hdnS⟩ := Cond.laysAt hfound hk Y.stack (a' (.lays cls Bundle.tN "stackTrace" Bundle.steD) (by simp [Bundle.ownAtoms]))
  obtain ⟨tyP, dP, hdP, hdnP⟩ := Cond.laysAt hfound hk Y.supp (a' (.lays cls Bundle.tN "suppressedExceptions" Bundle.listD) (by simp [Bundle.ownAtoms]))
  obtain ⟨tyM, dM, hdM, hdnM⟩ := Cond.laysAt hfound hk hffM (a' (.lays cls Bundle.tN "detailMessage" "Ljava/lang/String;") (by simp [Bundle.ownAtoms]))
  obtain ⟨tyB, dB, hdB, hdnB⟩ := Cond.laysAt hfound hk hffB (a' (.lays cls Bundle.tN "backtrace" "Ljava/lang/Object;") (by simp [Bundle.ownAtoms]))
  have bC := Cond.laysApart hdB hdC hdnB hdnC (by rw [hnB, Y.causeName]; decide)
  have bS := Cond.laysApart hdB hdS hdnB hdnS (by rw [hnB, Y.stackName]; decide)
  have bP := Cond.laysApart hdB hdP hdnB hdnP (by rw [hnB, Y.suppName]; decide)
  have hskip : SkipFacts T e.platform s (fun u => u) u0 ((preparedCellV T.toThrowableT (freshCell P1.m.cls kX) a u0 sen).withEntry W.cur) :=
    ⟨{ ci198 := ci198, i198 := i198, fBack := fB }, ⟨hk198, hg198, ha198, hsB⟩, by
      have := fresh_default (c := P1.m.cls) tyB
      rw [htB] at this
      simpa [preparedCellV, Cell.setSlot, Cell.withEntry, Array.getElem?_setIfInBounds, bC, bS, bP, bC.symm, bS.symm, bP.symm, defaultValue] using this, fun _ _ => rfl⟩
  obtain ⟨tm, methC, cdC, kC, vm₁, hnC, -, -, -, -, -, -, -, hW₁, st1⟩ := Steps.initColdS (tb := p.tables) (e := e) (below := below) (s := s) (U := W) X.here hexec X.warmed hpl hown (t := Bundle.initS cls) rfl rfl (Bundle.fit_spec hcls).2
    (a' (.methodLink own ic (Bundle.initS cls)) (by simp [Bundle.ownAtoms])) (h (.instanceMethod (Bundle.initS cls)) (by cases names <;> simp [Bundle.ownAtoms, Bundle.chainSAtoms, Bundle.passSAtoms])) (bytes := Bundle.six) (maxL := 2) (h (.code (Bundle.initS cls) Bundle.six 2 none) (by cases names <;> simp [Bundle.ownAtoms, Bundle.chainSAtoms, Bundle.passSAtoms]))
    (f := g) hg (a := a) (msg := msg) (rest := .ref a :: rest) hstack hd6
  cases Option.some.inj (hnC.symm.trans hP1m)
  have X₁ := X.noted hW₁
  obtain ⟨vm₂, X₂, st2⟩ := X₁.ctorMessageOffV hexec (g := { g with stack := .ref a :: rest }) hg hsize T L Z LZ M LM (P1 :: Ps)
    (fun P hP => by rcases List.mem_cons.mp hP with rfl | hP; exact L1; exact hL P hP) ⟨hlink1, hlink⟩ (u0 := u0) (sen := sen) (self := a) hmsg (cell := freshCell P1.m.cls kX) (cellS := cellS)
    hcell (fun _ => by simp) (by simp) rfl rfl hsel0 hselF hcellS hneS hknownS (by rw [hkeep _ (hout' _)]; exact hu0) (by rw [hkeep _ (hout' _)]; exact hsen)
    (Takes.of_laid hk hord tyC (by rw [Y.causeType]; rfl)) (Takes.of_laid hk hord tyS (by rw [Y.stackType]; exact fits_refV_array _ u0)) (Takes.of_laid hk hord tyP (by rw [Y.suppType]; exact fits_refV_object _ sen))
    (Takes.of_laid hk hord tyM (by rw [Y.msgType]; exact fits_refV_object _ ⟨msg, hmsg⟩)) Y.objLocals hskip htr [] hd6
    (by simp only [List.length_cons, hlen]; omega) (by simp only [List.length_cons, hlen]; exact hRlocals)
  have hlt : a < ((W.setVm vm₁).setVm vm₂).heap.size := (Array.getElem?_eq_some_iff.mp hcell).1
  refine ⟨(W.setVm vm₁).setVm vm₂, _, _, X₂, fun y hy => ?_, hlt, rfl, rfl, fun target hwalk => st1 _ (fun acts => ?_)⟩
  · simp only [List.mem_cons, List.not_mem_nil, or_false] at hy
    rcases hy with rfl | rfl | rfl | rfl | rfl <;> rfl
  · rw [doInvoke_state]
    exact st2 _ hwalk
set_option maxHeartbeats 1000000 in
theorem vx_ctorMade0 (X : Stand p l e R s m₀ args below meth c W locs cells slots) (hexec : p.tables.exec = Jvm.exec) (htr : e.platform.stackTraces = false) {own cls : String} {names : List String} {ic : Nat}
    (hown : s.vm.findClass own = some m₀.cls) (hcls : Bundle.fit cls = true) (hnames : ∀ n ∈ names, Bundle.fit n = true)
    (h : ∀ a ∈ Bundle.ownAtoms0 own ic cls names, a.before args s = true)
    (hlocs : ∀ x ∈ locs, ∀ cell, s.heap[x.base]? = some cell → cell.vm.isStatics = false)
    {a : Addr} {cX : ClassId} {kX : Class} (hfoundX : s.vm.findClass cls = some cX) (hkX : s.vm.classes[cX]? = some kX) (hcell : W.heap[a]? = some (freshCell cX kX)) (hnew : s.heap.size ≤ a)
    {g : JFrame} (hg : g.method = m₀) (hsize : g.locals.size = c.maxLocals) {rest : List Value} (hstack : g.stack = .ref a :: .ref a :: rest)
    (hd6 : decode c.code g.pc = .ok (.invokespecial ic, 3))
    (hRframes : names.length + 3 < R.frames) (hRlocals : 2 * g.monitorRoom + ((Value.ref a :: rest).map fun v => v.category).sum + (13 * (names.length + 1) + 41) ≤ R.locals) :
    ∃ (V : State) (ce : Cell) (L : List Loc), Stand p l e R s m₀ args below meth c (V.setCell a ce) (locs ++ L) cells slots ∧ (∀ y ∈ L, y.base = a) ∧ a < V.heap.size ∧ ce.cls = cX ∧ ce.vm = .none ∧
      ∀ target, Steps p.tables e below ((V.setCell a ce).setTop { g with stack := .ref a :: rest, pc := g.pc + 3 }) target → Steps p.tables e below (W.setTop g) target := by
  have howns : e.platform.frameOwnsMonitors = true := by rw [X.admits.platform]
  have hfin : e.platform.finalization = false := by rw [X.admits.platform]
  have hpl : e.platform.magicAccessors = ({} : Platform).magicAccessors := by rw [X.admits.platform]
  have a' : ∀ x, x ∈ Bundle.ownAtoms0 own ic cls names → x.holds args s none s [] = true := fun x hx => h x hx
  obtain ⟨T, Z, L, LZ, Y⟩ := ThrowableC.of_atoms (args := args) howns hfin hpl (fun x hx => h x (by simp [Bundle.ownAtoms0, hx]))
  obtain ⟨P1, Ps, hlen, L1, hL, hP1m, hlink1, hlink⟩ := Bundle.chain0 (args := args) hpl Y.init0 names cls hcls hnames (fun x hx => h x (by simp [Bundle.ownAtoms0, hx]))
  have hfound : s.vm.findClass cls = some P1.m.cls := findClass_of_methodNamed hP1m
  cases Option.some.inj (hfoundX.symm.trans hfound)
  obtain ⟨c1, kX', hc1, hk, hord, -, -, hn6⟩ := Cond.instantiable_spec (a' (.instantiable cls 6) (by simp [Bundle.ownAtoms0]))
  cases Option.some.inj (hc1.symm.trans hfound)
  cases Option.some.inj (hkX.symm.trans hk)
  have hsel0 : selectMethod e.platform s.vm P1.m.cls T.fill0 = .method T.fill0 := by
    obtain ⟨c2, r2, m2, q1, q2, q3, q4, -⟩ := Cond.selects_spec (a' (.selects cls Bundle.tFill0 Bundle.tFill0) (by simp [Bundle.ownAtoms0]))
    cases Option.some.inj (q1.symm.trans hfound)
    cases Option.some.inj (q2.symm.trans (State.methodFound?_of_named Y.fill0 (by decide)))
    cases Option.some.inj (q3.symm.trans Y.fill0)
    rw [Launch.admits_selectMethod X.admits]; exact q4
  have hselF : selectMethod e.platform s.vm P1.m.cls T.fill = .method T.fill := by
    obtain ⟨c2, r2, m2, q1, q2, q3, q4, -⟩ := Cond.selects_spec (a' (.selects cls Bundle.tFill Bundle.tFill) (by simp [Bundle.ownAtoms0]))
    cases Option.some.inj (q1.symm.trans hfound)
    cases Option.some.inj (q2.symm.trans (State.methodFound?_of_named Y.fill (by decide)))
    cases Option.some.inj (q3.symm.trans Y.fill)
    rw [Launch.admits_selectMethod X.admits]; exact q4
  obtain ⟨cellS0, hcS0, hiss⟩ := Y.statics
  obtain ⟨u0, hu0⟩ := Cond.staticRefV Y.unassigned L.unassignedStatic L.statics hcS0 hiss (a' (.isRef (.static Bundle.tN "UNASSIGNED_STACK" Bundle.steD)) (by simp [Bundle.ownAtoms0]))
  obtain ⟨sen, hsen⟩ := Cond.staticRefV Y.sentinel L.sentinelStatic L.statics hcS0 hiss (a' (.isRef (.static Bundle.tN "SUPPRESSED_SENTINEL" Bundle.listD)) (by simp [Bundle.ownAtoms0]))
  obtain ⟨ci198, i198, fB, hk198, hg198, ha198, hsB, -, hnB, htB, hffB⟩ := Cond.ownField (t := .object "java/lang/Object") Y.found L.cls (by decide +kernel) (a' (.fieldLink Bundle.tN 198 Bundle.tN "backtrace" "Ljava/lang/Object;") (by simp [Bundle.ownAtoms0])) (a' (.lays Bundle.tN Bundle.tN "backtrace" "Ljava/lang/Object;") (by simp [Bundle.ownAtoms0])) e.platform hpl
  obtain ⟨cellS, hcS', heS, -, hkeep⟩ := X.same.2.2.2.2.2 T.aS cellS0 hcS0
  have hcellS : W.heap[T.aS]? = some cellS := hcS'
  have hout' : ∀ i, (⟨T.aS, i⟩ : Loc) ∉ locs := fun i hmem => by
    have := hlocs _ hmem cellS0 hcS0
    rw [hiss] at this; cases this
  have hknownS : cellS.vm ≠ .unknown := by
    rw [heS]; intro hu
    rw [show cellS0.vm = .unknown from hu] at hiss
    cases hiss
  have hneS : T.aS ≠ a := Nat.ne_of_lt (Nat.lt_of_lt_of_le (Array.getElem?_eq_some_iff.mp hcS0).1 hnew)
  obtain ⟨iM, hffM⟩ := Y.msg
  obtain ⟨tyC, dC, hdC, hdnC⟩ := Cond.laysAt hfound hk Y.cause (a' (.lays cls Bundle.tN "cause" "Ljava/lang/Throwable;") (by simp [Bundle.ownAtoms0]))
  obtain ⟨tyS, dS, hdS, hdnS⟩ := Cond.laysAt hfound hk Y.stack (a' (.lays cls Bundle.tN "stackTrace" Bundle.steD) (by simp [Bundle.ownAtoms0]))
  obtain ⟨tyP, dP, hdP, hdnP⟩ := Cond.laysAt hfound hk Y.supp (a' (.lays cls Bundle.tN "suppressedExceptions" Bundle.listD) (by simp [Bundle.ownAtoms0]))
  obtain ⟨tyM, dM, hdM, hdnM⟩ := Cond.laysAt hfound hk hffM (a' (.lays cls Bundle.tN "detailMessage" "Ljava/lang/String;") (by simp [Bundle.ownAtoms0]))
  obtain ⟨tyB, dB, hdB, hdnB⟩ := Cond.laysAt hfound hk hffB (a' (.lays cls Bundle.tN "backtrace" "Ljava/lang/Object;") (by simp [Bundle.ownAtoms0]))
  have bC := Cond.laysApart hdB hdC hdnB hdnC (by rw [hnB, Y.causeName]; decide)
  have bS := Cond.laysApart hdB hdS hdnB hdnS (by rw [hnB, Y.stackName]; decide)
  have bP := Cond.laysApart hdB hdP hdnB hdnP (by rw [hnB, Y.suppName]; decide)
  have hskip : SkipFacts T e.platform s (fun u => u) u0 ((preparedCellV T.toThrowableT (freshCell P1.m.cls kX) a u0 sen).withEntry W.cur) :=
    ⟨{ ci198 := ci198, i198 := i198, fBack := fB }, ⟨hk198, hg198, ha198, hsB⟩, by
      have := fresh_default (c := P1.m.cls) tyB
      rw [htB] at this
      simpa [preparedCellV, Cell.setSlot, Cell.withEntry, Array.getElem?_setIfInBounds, bC, bS, bP, bC.symm, bS.symm, bP.symm, defaultValue] using this, fun _ _ => rfl⟩
  obtain ⟨tm, methC, cdC, kC, vm₁, hnC, -, -, -, -, -, -, -, hW₁, st1⟩ := Steps.initCold (tb := p.tables) (e := e) (below := below) (s := s) (U := W) X.here hexec X.warmed hpl hown (t := Bundle.init0 cls) rfl rfl (Bundle.fit_spec hcls).2
    (a' (.methodLink own ic (Bundle.init0 cls)) (by simp [Bundle.ownAtoms0])) (h (.instanceMethod (Bundle.init0 cls)) (by cases names <;> simp [Bundle.ownAtoms0, Bundle.chain0Atoms, Bundle.passAtoms])) (bytes := Bundle.five) (maxL := 1) (h (.code (Bundle.init0 cls) Bundle.five 1 none) (by cases names <;> simp [Bundle.ownAtoms0, Bundle.chain0Atoms, Bundle.passAtoms]))
    (f := g) hg (a := a) (rest := .ref a :: rest) hstack hd6
  cases Option.some.inj (hnC.symm.trans hP1m)
  have X₁ := X.noted hW₁
  obtain ⟨vm₂, X₂, st2⟩ := X₁.ctorPlainOffV hexec (g := { g with stack := .ref a :: rest }) hg hsize T L Z LZ (P1 :: Ps)
    (fun P hP => by rcases List.mem_cons.mp hP with rfl | hP; exact L1; exact hL P hP) ⟨hlink1, hlink⟩ (u0 := u0) (sen := sen) (self := a) (cell := freshCell P1.m.cls kX) (cellS := cellS)
    hcell (fun _ => by simp) (by simp) rfl rfl hsel0 hselF hcellS hneS hknownS (by rw [hkeep _ (hout' _)]; exact hu0) (by rw [hkeep _ (hout' _)]; exact hsen)
    (Takes.of_laid hk hord tyC (by rw [Y.causeType]; rfl)) (Takes.of_laid hk hord tyS (by rw [Y.stackType]; exact fits_refV_array _ u0)) (Takes.of_laid hk hord tyP (by rw [Y.suppType]; exact fits_refV_object _ sen)) Y.objLocals hskip htr [] hd6
    (by simp only [List.length_cons, hlen]; omega) (by simp only [List.length_cons, hlen]; exact hRlocals)
  have hlt : a < ((W.setVm vm₁).setVm vm₂).heap.size := (Array.getElem?_eq_some_iff.mp hcell).1
  refine ⟨(W.setVm vm₁).setVm vm₂, _, _, X₂, fun y hy => ?_, hlt, rfl, rfl, fun target hwalk => st1 _ (fun acts => ?_)⟩
  · simp only [List.mem_cons, List.not_mem_nil, or_false] at hy
    rcases hy with rfl | rfl | rfl | rfl <;> rfl
  · rw [doInvoke_state]
    exact st2 _ hwalk
end VXK
section VXK2
variable {p : Program} {l : Launch} {e : Env} {R : Room} {s : State} {m : MethodId} {args : Array Value} {below : List Frame} {meth : Method} {c : Code} {H : Heap} {locs : List Loc} {cells slots : Nat} {Q : State → Prop}
variable {ls : Array Slot} {rest : List Value} {D : va_G} {cl : List vw_C} {tys : List (ClassId × FieldType)} {ws : va_W}
/-- 'new E("text")' that isn't thrown at once: the object goes on the stack -/
theorem vx_makeS {cc : ByteArray} {pc : Nat} (hexec : p.tables.exec = Jvm.exec) (hb : c.code = cc) (hl : l.stackTraces = false) {own cls text : String} {names : List String} {ik is ic sa ci : Nat} {A : Nat → Prop} {T0 : u_T}
    (hown : s.vm.findClass own = some m.cls) (hcls : Bundle.fit cls = true) (hnames : ∀ n ∈ names, Bundle.fit n = true)
    (hk : (Cond.classLink own ik cls).before args s = true) (hini : (Cond.initialized cls).before args s = true) (hstr : vk_R own is text sa s) (hat : ∀ w ∈ vx_atS own ic cls names, w.before args s = true)
    (hgood : ∀ w ∈ Cond.classLink own ik cls :: Cond.initialized cls :: vx_atS own ic cls names, vx_ot w = true)
    (hU : vx_Zq Bundle.tN "UNASSIGNED_STACK" Bundle.steD A s s.heap) (hN : vx_Zq Bundle.tN "SUPPRESSED_SENTINEL" Bundle.listD A s s.heap) (hS : va_S A s.heap H locs) (hsize : ls.size = c.maxLocals)
    (d0 : decode cc pc = .ok (.new ik, 3)) (d3 : decode cc (pc + 3) = .ok (.dup, 1)) (d4 : decode cc (pc + 4) = .ok (.ldc is, 2)) (d6 : decode cc (pc + 6) = .ok (.invokespecial ic, 3))
    (hK : va_K D cl tys s) (hP : va_P D cl ws H) (hD : va_D A ws) (hA : ∀ q, s.heap.size ≤ q → A q) (hc : cl[ci]? = some (cls, T0, 0))
    (hRframes : names.length + 3 < R.frames) (hRlocals : (rest.map fun v => v.category).sum + (13 * (names.length + 1) + 43) ≤ R.locals) (hRcells : cells + 1 ≤ R.cells) (hRslots : slots + 6 ≤ R.slots)
    (kk : ∀ (q : Nat) (H1 : Heap), va_P D cl (ws ++ [(q, .inr (ci, []))]) H1 → va_D A (ws ++ [(q, .inr (ci, []))]) → va_S A s.heap H1 locs → W p l e R s m args below meth c H1 locs (cells + 1) (slots + 6) Q (F0 m (pc + 9) ls (.ref q :: rest))) :
    W p l e R s m args below meth c H locs cells slots Q (F0 m pc ls rest) := by
  intro T hT X
  subst hT
  have htr : e.platform.stackTraces = false := (show e.platform.stackTraces = l.stackTraces by rw [X.admits.platform]).trans hl
  have Y := vx_rebase X (R' := { frames := R.frames, locals := R.locals, cells := 1, slots := 6 }) (Nat.le_refl _) (Nat.le_refl _) hRcells hRslots
  obtain ⟨s', hA'⟩ : ∃ z, z = (T.setVm s.vm).setFrames (.invoking m args :: below) := ⟨_, rfl⟩
  rw [← hA'] at Y
  have hvm : s'.vm = s.vm := by rw [hA']; rfl
  have hhp : s'.heap = T.heap := by rw [hA']; rfl
  have hW0 : s.WarmedH s'.vm := by rw [hvm]; exact State.WarmedH.refl s
  have hat' : ∀ w ∈ vx_atS own ic cls names, w.before args s' = true := fun w hw => vx_ot_at hW0 hvm.symm (hgood w (List.mem_cons_of_mem _ (List.mem_cons_of_mem _ hw))) (hat w hw)
  have hk' : (Cond.classLink own ik cls).before args s' = true := vx_ot_at hW0 hvm.symm (hgood _ List.mem_cons_self) hk
  have hini' : (Cond.initialized cls).before args s' = true := vx_ot_at hW0 hvm.symm (hgood _ (List.mem_cons_of_mem _ List.mem_cons_self)) hini
  have hU' : vx_Zq Bundle.tN "UNASSIGNED_STACK" Bundle.steD A s' s'.heap := by rw [hhp]; exact vx_Zq.moved hW0.alike (hU.kept hS.2.1)
  have hN' : vx_Zq Bundle.tN "SUPPRESSED_SENTINEL" Bundle.listD A s' s'.heap := by rw [hhp]; exact vx_Zq.moved hW0.alike (hN.kept hS.2.1)
  have h : ∀ w ∈ Bundle.ownAtoms own ic cls names, w.before args s' = true := vx_own hat' (vx_isRefq hU'.1) (vx_isRefq hN'.1) hU'.2.word hN'.2.word
  have hown' : s'.vm.findClass own = some m.cls := by rw [hvm]; exact hown
  have hins : (Cond.instantiable cls 6).before args s' = true := h _ (by simp [Bundle.ownAtoms])
  obtain ⟨vm₁, cX, kX, hfX, hkX, -, -, X₁, st1⟩ := Y.newCold hexec (own := own) (C := cls) (index := ik) (n := 6) hown' hk' hins hini'
    (g := F0 m pc ls rest) rfl (by rw [hb]; exact d0) (Nat.le_refl _) (Nat.le_refl _)
  generalize hT1 : (T.setVm vm₁).pushCell { cls := cX, slots := kX.instanceTypes.map defaultValue, vm := .none } = T1 at X₁ st1
  have hcat : (Value.ref T.heap.size).category = 1 := rfl
  have hcellA : T1.heap[T.heap.size]? = some (freshCell cX kX) := by rw [← hT1]; exact State.heap_pushCell_size _ _
  have d3' : decode c.code (pc + 3) = .ok (.dup, 1) := by rw [hb]; exact d3
  have d4' : decode c.code (pc + 4) = .ok (.ldc is, 2) := by rw [hb]; exact d4
  have hstr' : vk_R own is text sa s' := vk_R.warm hW0 hstr
  obtain ⟨V, ce, L, Z, hL, hlt, hcl9, hvm9, st⟩ := vx_ctorMadeS X₁ hexec htr (own := own) (cls := cls) (names := names) (ic := ic) hown' hcls hnames h (fun x hx => nomatch hx) hfX hkX hcellA (by rw [hhp]; exact Nat.le_refl _) (msg := .ref sa) rfl
    (g := { method := m, pc := pc + 6, locals := ls, stack := .ref sa :: .ref T.heap.size :: .ref T.heap.size :: rest, locked := none }) rfl hsize (rest := rest) rfl
    (by rw [hb]; exact d6) hRframes (by simp only [List.map_cons, List.sum_cons, hcat]; omega)
  have Z0 := Stand.forget (locs := []) Z (fun y hy => by rw [hL y hy, hhp]; exact Nat.le_refl _)
  obtain ⟨f1, f2⟩ := vx_frame Z0.same
  rw [hhp] at f1 f2
  have hcid : ce.cls = D.1 ci := by
    rw [hcl9]
    have h1 := (hK.1 ci _ hc).2.1
    rw [hvm] at hfX
    exact Option.some.inj (hfX.symm.trans h1)
  have hh : (V.setCell T.heap.size ce).heap[T.heap.size]? = some ce := heapAt_setCell_self (s := V) ce hlt
  subst hA'
  have X5 := vx_back9 X Y Z0
  have X6 : Stand p l e R s m args below meth c (V.setCell T.heap.size ce) locs (cells + 1) (slots + 6) := { X5 with same := X5.same.mono (by omega) (by omega) }
  have hk9 : ∀ (k : Nat) (x : Nat × va_E), ws[k]? = some x → (V.setCell T.heap.size ce).heap[x.1]? = T.heap[x.1]? := fun k x hx => f2 x.1 ((hP k x hx).lt) (fun z hz => nomatch hz)
  obtain ⟨t, a1, b1⟩ := kk T.heap.size (V.setCell T.heap.size ce).heap ((hP.kept hk9).app (fun k x hx => by
      have hz : k < 1 := (List.getElem?_eq_some_iff.mp hx).1
      rw [show k = 0 by omega] at hx
      cases hx
      exact ⟨_, hc, ce, hh, hcid, hvm9, fun k hk => absurd hk (Nat.not_lt_zero k)⟩)) (hD.push hP rfl (hA _ hS.1)) ⟨Nat.le_trans hS.1 f1, fun q h1 h2 => (f2 q (Nat.lt_of_lt_of_le h1 hS.1) (fun z hz => nomatch hz)).trans (hS.2.1 q h1 h2), hS.2.2⟩ _ rfl X6
  refine ⟨t, st1 _ ?_, b1⟩
  show Steps p.tables e below (T1.setTop { method := m, pc := pc + 3, locals := ls, stack := .ref T.heap.size :: rest, locked := none }) _
  jvm_step X₁.here [X₁.here.top, hexec, d3', Value.category]
  exact X₁.ldcString hexec (own := own) (text := text) (index := is) (a := sa) hown' hstr'.1 hstr'.2
    (g := { method := m, pc := pc + 4, locals := ls, stack := .ref T.heap.size :: .ref T.heap.size :: rest, locked := none }) rfl d4' _ (st _ a1)
/-- 'new E()' that isn't thrown at once: the object goes on the stack -/
theorem vx_make0 {cc : ByteArray} {pc : Nat} (hexec : p.tables.exec = Jvm.exec) (hb : c.code = cc) (hl : l.stackTraces = false) {own cls : String} {names : List String} {ik ic ci : Nat} {A : Nat → Prop} {T0 : u_T}
    (hown : s.vm.findClass own = some m.cls) (hcls : Bundle.fit cls = true) (hnames : ∀ n ∈ names, Bundle.fit n = true)
    (hk : (Cond.classLink own ik cls).before args s = true) (hini : (Cond.initialized cls).before args s = true) (hat : ∀ w ∈ vx_at0 own ic cls names, w.before args s = true)
    (hgood : ∀ w ∈ Cond.classLink own ik cls :: Cond.initialized cls :: vx_at0 own ic cls names, vx_ot w = true)
    (hU : vx_Zq Bundle.tN "UNASSIGNED_STACK" Bundle.steD A s s.heap) (hN : vx_Zq Bundle.tN "SUPPRESSED_SENTINEL" Bundle.listD A s s.heap) (hS : va_S A s.heap H locs) (hsize : ls.size = c.maxLocals)
    (d0 : decode cc pc = .ok (.new ik, 3)) (d3 : decode cc (pc + 3) = .ok (.dup, 1)) (d4 : decode cc (pc + 4) = .ok (.invokespecial ic, 3))
    (hK : va_K D cl tys s) (hP : va_P D cl ws H) (hD : va_D A ws) (hA : ∀ q, s.heap.size ≤ q → A q) (hc : cl[ci]? = some (cls, T0, 0))
    (hRframes : names.length + 3 < R.frames) (hRlocals : (rest.map fun v => v.category).sum + (13 * (names.length + 1) + 42) ≤ R.locals) (hRcells : cells + 1 ≤ R.cells) (hRslots : slots + 6 ≤ R.slots)
    (kk : ∀ (q : Nat) (H1 : Heap), va_P D cl (ws ++ [(q, .inr (ci, []))]) H1 → va_D A (ws ++ [(q, .inr (ci, []))]) → va_S A s.heap H1 locs → W p l e R s m args below meth c H1 locs (cells + 1) (slots + 6) Q (F0 m (pc + 7) ls (.ref q :: rest))) :
    W p l e R s m args below meth c H locs cells slots Q (F0 m pc ls rest) := by
  intro T hT X
  subst hT
  have htr : e.platform.stackTraces = false := (show e.platform.stackTraces = l.stackTraces by rw [X.admits.platform]).trans hl
  have Y := vx_rebase X (R' := { frames := R.frames, locals := R.locals, cells := 1, slots := 6 }) (Nat.le_refl _) (Nat.le_refl _) hRcells hRslots
  obtain ⟨s', hA'⟩ : ∃ z, z = (T.setVm s.vm).setFrames (.invoking m args :: below) := ⟨_, rfl⟩
  rw [← hA'] at Y
  have hvm : s'.vm = s.vm := by rw [hA']; rfl
  have hhp : s'.heap = T.heap := by rw [hA']; rfl
  have hW0 : s.WarmedH s'.vm := by rw [hvm]; exact State.WarmedH.refl s
  have hat' : ∀ w ∈ vx_at0 own ic cls names, w.before args s' = true := fun w hw => vx_ot_at hW0 hvm.symm (hgood w (List.mem_cons_of_mem _ (List.mem_cons_of_mem _ hw))) (hat w hw)
  have hk' : (Cond.classLink own ik cls).before args s' = true := vx_ot_at hW0 hvm.symm (hgood _ List.mem_cons_self) hk
  have hini' : (Cond.initialized cls).before args s' = true := vx_ot_at hW0 hvm.symm (hgood _ (List.mem_cons_of_mem _ List.mem_cons_self)) hini
  have hU' : vx_Zq Bundle.tN "UNASSIGNED_STACK" Bundle.steD A s' s'.heap := by rw [hhp]; exact vx_Zq.moved hW0.alike (hU.kept hS.2.1)
  have hN' : vx_Zq Bundle.tN "SUPPRESSED_SENTINEL" Bundle.listD A s' s'.heap := by rw [hhp]; exact vx_Zq.moved hW0.alike (hN.kept hS.2.1)
  have h : ∀ w ∈ Bundle.ownAtoms0 own ic cls names, w.before args s' = true := vx_own hat' (vx_isRefq hU'.1) (vx_isRefq hN'.1) hU'.2.word hN'.2.word
  have hown' : s'.vm.findClass own = some m.cls := by rw [hvm]; exact hown
  have hins : (Cond.instantiable cls 6).before args s' = true := h _ (by simp [Bundle.ownAtoms0])
  obtain ⟨vm₁, cX, kX, hfX, hkX, -, -, X₁, st1⟩ := Y.newCold hexec (own := own) (C := cls) (index := ik) (n := 6) hown' hk' hins hini'
    (g := F0 m pc ls rest) rfl (by rw [hb]; exact d0) (Nat.le_refl _) (Nat.le_refl _)
  generalize hT1 : (T.setVm vm₁).pushCell { cls := cX, slots := kX.instanceTypes.map defaultValue, vm := .none } = T1 at X₁ st1
  have hcat : (Value.ref T.heap.size).category = 1 := rfl
  have hcellA : T1.heap[T.heap.size]? = some (freshCell cX kX) := by rw [← hT1]; exact State.heap_pushCell_size _ _
  have d3' : decode c.code (pc + 3) = .ok (.dup, 1) := by rw [hb]; exact d3
  obtain ⟨V, ce, L, Z, hL, hlt, hcl9, hvm9, st⟩ := vx_ctorMade0 X₁ hexec htr (own := own) (cls := cls) (names := names) (ic := ic) hown' hcls hnames h (fun x hx => nomatch hx) hfX hkX hcellA (by rw [hhp]; exact Nat.le_refl _)
    (g := { method := m, pc := pc + 4, locals := ls, stack := .ref T.heap.size :: .ref T.heap.size :: rest, locked := none }) rfl hsize (rest := rest) rfl
    (by rw [hb]; exact d4) hRframes (by simp only [List.map_cons, List.sum_cons, hcat]; omega)
  have Z0 := Stand.forget (locs := []) Z (fun y hy => by rw [hL y hy, hhp]; exact Nat.le_refl _)
  obtain ⟨f1, f2⟩ := vx_frame Z0.same
  rw [hhp] at f1 f2
  have hcid : ce.cls = D.1 ci := by
    rw [hcl9]
    have h1 := (hK.1 ci _ hc).2.1
    rw [hvm] at hfX
    exact Option.some.inj (hfX.symm.trans h1)
  have hh : (V.setCell T.heap.size ce).heap[T.heap.size]? = some ce := heapAt_setCell_self (s := V) ce hlt
  subst hA'
  have X5 := vx_back9 X Y Z0
  have X6 : Stand p l e R s m args below meth c (V.setCell T.heap.size ce) locs (cells + 1) (slots + 6) := { X5 with same := X5.same.mono (by omega) (by omega) }
  have hk9 : ∀ (k : Nat) (x : Nat × va_E), ws[k]? = some x → (V.setCell T.heap.size ce).heap[x.1]? = T.heap[x.1]? := fun k x hx => f2 x.1 ((hP k x hx).lt) (fun z hz => nomatch hz)
  obtain ⟨t, a1, b1⟩ := kk T.heap.size (V.setCell T.heap.size ce).heap ((hP.kept hk9).app (fun k x hx => by
      have hz : k < 1 := (List.getElem?_eq_some_iff.mp hx).1
      rw [show k = 0 by omega] at hx
      cases hx
      exact ⟨_, hc, ce, hh, hcid, hvm9, fun k hk => absurd hk (Nat.not_lt_zero k)⟩)) (hD.push hP rfl (hA _ hS.1)) ⟨Nat.le_trans hS.1 f1, fun q h1 h2 => (f2 q (Nat.lt_of_lt_of_le h1 hS.1) (fun z hz => nomatch hz)).trans (hS.2.1 q h1 h2), hS.2.2⟩ _ rfl X6
  refine ⟨t, st1 _ ?_, b1⟩
  show Steps p.tables e below (T1.setTop { method := m, pc := pc + 3, locals := ls, stack := .ref T.heap.size :: rest, locked := none }) _
  jvm_step X₁.here [X₁.here.top, hexec, d3', Value.category]
  exact st _ a1
/-- 'throw x' of an object that was made before -/
theorem vx_athrow {cc : ByteArray} {pc : Nat} (hexec : p.tables.exec = Jvm.exec) (hb : c.code = cc) {q : Addr} (hdg : decode cc pc = .ok (.athrow, 1)) (k : vx_W p l e R s m args below meth c H locs cells slots Q (F0 m pc ls rest) q) : W p l e R s m args below meth c H locs cells slots Q (F0 m pc ls (.ref q :: rest)) := by
  intro T hT X
  obtain ⟨t, st, hq⟩ := k T hT X
  refine ⟨t, ?_, hq⟩
  have hdg' : decode c.code pc = .ok (.athrow, 1) := by rw [hb]; exact hdg
  jvm_step X.here [X.here.top, hexec, hdg', athrow.wp_sem]
  exact st
end VXK2
/-! ===== END ===== -/
/-! ===== BEGIN a constructor that throws (launches without stack traces) ===== -/
section VXIA
variable {p : Program} {l : Launch} {e : Env} {R : Room} {s : State} {m : MethodId} {args : Array Value} {below : List Frame} {meth : Method} {c : Code} {T : State} {locs : List Loc} {cells slots : Nat}
theorem vx_callI (X : Stand p l e R s m args below meth c T locs cells slots) (hexec : p.tables.exec = Jvm.exec) {own : String} {index : Nat} {y : MethodName} {bytes : ByteArray} {maxL : Nat}
    (hown : s.vm.findClass own = some m.cls) (hy1 : y.name = "<init>") (hlink : (Cond.methodLink own index y).before args s = true) (hinst : (Cond.instanceMethod y).before args s = true)
    (hcode : (Cond.code y bytes maxL none).before args s = true) (hy : y.cls ≠ "java/lang/invoke/MethodHandle" ∧ y.cls ≠ "java/lang/invoke/VarHandle")
    {W9 : Nat} {Pre : Pt → Array Value → Prop} {Post : Pt → Array Value → Option Value → Pt → Prop} {PostX : Pt → Array Value → Addr → Pt → Prop} (hK : vx_Back l R p e below s args y 3 W9 Pre Post PostX)
    {g : JFrame} (hg : g.method = m) (hsize : g.locals.size = c.maxLocals) {a : Addr} {argsL rest : List Value} (hlen : ∀ sig, parseMethodDescriptor y.desc = some sig → argsL.length = sig.parameters.length)
    (hstack : g.stack = argsL.reverse ++ .ref a :: rest) (hW : 2 * g.monitorRoom + (rest.map fun v => v.category).sum ≤ W9) (hdg : decode c.code g.pc = .ok (.invokespecial index, 3))
    (hpre : ∀ vm₁, s.WarmedH vm₁ → Pre ⟨T.setVm vm₁, locs, cells, slots⟩ (Value.ref a :: argsL).toArray) :
    (∃ (v : Option Value) (vm₁ : Vm) (B : Pt), s.WarmedH vm₁ ∧ Stand p l e R s m args below meth c B.U B.locs B.cells B.slots ∧ Post ⟨T.setVm vm₁, locs, cells, slots⟩ (Value.ref a :: argsL).toArray v B ∧
      ∀ target, Steps p.tables e below (B.U.setTop { g with pc := g.pc + 3, stack := v.toList ++ rest }) target → Steps p.tables e below (T.setTop g) target) ∨
    (∃ (q : Addr) (vm₁ : Vm) (B : Pt), s.WarmedH vm₁ ∧ Stand p l e R s m args below meth c B.U B.locs B.cells B.slots ∧ PostX ⟨T.setVm vm₁, locs, cells, slots⟩ (Value.ref a :: argsL).toArray q B ∧
      Steps p.tables e below (T.setTop g) ((B.U.setTop { g with stack := rest }).pushFrame (.throwing q))) := by
  subst hg
  have hpl : e.platform.magicAccessors = ({} : Platform).magicAccessors := by rw [X.admits.platform]
  obtain ⟨mk, methM, cM, kP, vm₁, hnamed, hmethM, hcodeM, -, hlocalsM, -, hkP, -, hW₁, hstep₁⟩ := Steps.initColdArgs (e := e) X.here hexec X.warmed hpl hown hy1 hy hlink hinst hcode (f := g) rfl hlen hstack hdg
  have X₁ := X.noted hW₁
  rcases hK g.method meth c ⟨T.setVm vm₁, locs, cells, slots⟩ { g with stack := rest } (.invokespecial index) mk (Value.ref a :: argsL).toArray X₁ rfl hsize hdg hW (X₁.named hnamed) (hpre vm₁ X₁.warmed) with ⟨v, B, X', hpost, hsteps⟩ | ⟨q, B, X', hpost, hsteps⟩
  · exact Or.inl ⟨v, vm₁, B, X₁.warmed, X', hpost, fun target h => hstep₁ _ fun acts => by rw [doInvoke_state]; exact hsteps.trans h⟩
  · exact Or.inr ⟨q, vm₁, B, X₁.warmed, X', hpost, hstep₁ _ fun acts => by rw [doInvoke_state]; exact hsteps⟩
end VXIA
section VXIB
variable {p : Program} {l : Launch} {e : Env} {R : Room} {s : State} {m : MethodId} {args : Array Value} {below : List Frame} {meth : Method} {c : Code} {H : Heap} {locs : List Loc} {cells slots : Nat}
variable {y : MethodName} {bytes cc : ByteArray} {maxL nL mc ms n index : Nat} {ret : Option FieldType} {ws : List Cond} {rm : Room} {Pc : Array Value → State → Prop} {Qc : Array Value → State → Outcome → State → Prop} {XC : String → State → State → Prop} {free : Addr → Prop} {Ts : List Cond} {own C : String} {b : Addr} {As rest : List Value} {g : JFrame}
theorem vx_runI (S : CallFix p m c cc nL s args Ts own) (hM : vx_Met l y ws rm Pc Qc XC mc ms free) (cw : CallB R s args own index y bytes maxL none ws rm mc ms n ∧ y.name = "<init>" ∧ (Cond.instanceMethod y).before args s = true) (hp : PreS s H Pc (.ref b :: As))
    (hg : g.method = m) (hn : As.length = n) (hsize : g.locals.size = nL) (hstack : g.stack = As.reverse ++ .ref b :: rest) (hW : 2 * g.monitorRoom + (rest.map fun v => v.category).sum ≤ 8) (hdg : decode cc g.pc = .ok (.invokespecial index, 3)) (hf : cells + mc ≤ R.cells ∧ slots + ms ≤ R.slots) :
    vx_Run p l e R s m args below meth c H locs cells slots mc ms g rest (Qc (Value.ref b :: As).toArray) XC free := by
  have hK : vx_Back l R p e below s args y 3 8 (PreOf R mc ms Pc) (PostOf Qc mc ms free) (vx_Post XC mc ms free) := vx_callBack cw.1 hM hp.1
  obtain ⟨⟨-, -, -, -, -, -, hcode, -, hy, hlen, hl⟩, hy1, hin⟩ := cw
  obtain ⟨hx, hb, hml, ho, -⟩ := S
  have hPc := hp.2
  intro T hT X
  rcases vx_callI X hx (bytes := bytes) (maxL := maxL) ho hy1 hl hin hcode hy hK hg (hsize.trans hml.symm) (a := b) (argsL := As) (rest := rest) (fun sig h => hn.trans (hlen sig h)) hstack hW (by rw [hb]; exact hdg)
    (fun vm₁ hW₁ => ⟨hf.1, hf.2, hPc (T.setVm vm₁) hT hW₁⟩) with ⟨v, vm₁, ⟨U', l2, c2, s2⟩, hW₁, X', ⟨g', mk, t, L, e1, e2, hq, h1, hL, h2, h3⟩, st⟩ | ⟨q, vm₁, ⟨U', l2, c2, s2⟩, hW₁, X', ⟨g', mk, t, L, E, ce, e1, e2, hq, hce, hcv, hcl, h1, hL, h2, h3⟩, st⟩
  · dsimp only [Pt.U, Pt.locs, Pt.cells, Pt.slots] at X' e1 e2 h1 h2 h3 st
    subst h1; subst h2; subst h3
    exact Or.inl ⟨v, (T.setVm vm₁).calling g' mk (Value.ref b :: As).toArray, t, U', L, hT, X', hL, e1, e2, hq, st⟩
  · dsimp only [Pt.U, Pt.locs, Pt.cells, Pt.slots] at X' e1 e2 h1 h2 h3 st hcl
    subst h1; subst h2; subst h3
    exact Or.inr ⟨q, (T.setVm vm₁).calling g' mk (Value.ref b :: As).toArray, t, U', L, E, ce, hT, X', hL, e1, e2, hq, hce, hcv, vx_cls hW₁ hcl, st⟩
end VXIB
/-! ===== END ===== -/
/-! ===== BEGIN a private constructor of a nest mate that throws ===== -/
section VXIC
variable {p : Program} {l : Launch} {e : Env} {R : Room} {s : State} {m : MethodId} {args : Array Value} {below : List Frame} {meth : Method} {c : Code} {T : State} {locs : List Loc} {cells slots : Nat}
theorem vx_callIN (X : Stand p l e R s m args below meth c T locs cells slots) (hexec : p.tables.exec = Jvm.exec) {own : String} {index : Nat} {host : String} {y : MethodName} {bytes : ByteArray} {maxL : Nat}
    (hown : s.vm.findClass own = some m.cls) (hy1 : y.name = "<init>") (hlink : (Cond.methodLinkNest own index y host).before args s = true) (hinst : (Cond.instanceMethod y).before args s = true)
    (hcode : (Cond.code y bytes maxL none).before args s = true) (hy : y.cls ≠ "java/lang/invoke/MethodHandle" ∧ y.cls ≠ "java/lang/invoke/VarHandle")
    {W9 : Nat} {Pre : Pt → Array Value → Prop} {Post : Pt → Array Value → Option Value → Pt → Prop} {PostX : Pt → Array Value → Addr → Pt → Prop} (hK : vx_Back l R p e below s args y 3 W9 Pre Post PostX)
    {g : JFrame} (hg : g.method = m) (hsize : g.locals.size = c.maxLocals) {a : Addr} {argsL rest : List Value} (hlen : ∀ sig, parseMethodDescriptor y.desc = some sig → argsL.length = sig.parameters.length)
    (hstack : g.stack = argsL.reverse ++ .ref a :: rest) (hW : 2 * g.monitorRoom + (rest.map fun v => v.category).sum ≤ W9) (hdg : decode c.code g.pc = .ok (.invokespecial index, 3))
    (hpre : ∀ vm₁, s.WarmedH vm₁ → Pre ⟨T.setVm vm₁, locs, cells, slots⟩ (Value.ref a :: argsL).toArray) :
    (∃ (v : Option Value) (vm₁ : Vm) (B : Pt), s.WarmedH vm₁ ∧ Stand p l e R s m args below meth c B.U B.locs B.cells B.slots ∧ Post ⟨T.setVm vm₁, locs, cells, slots⟩ (Value.ref a :: argsL).toArray v B ∧
      ∀ target, Steps p.tables e below (B.U.setTop { g with pc := g.pc + 3, stack := v.toList ++ rest }) target → Steps p.tables e below (T.setTop g) target) ∨
    (∃ (q : Addr) (vm₁ : Vm) (B : Pt), s.WarmedH vm₁ ∧ Stand p l e R s m args below meth c B.U B.locs B.cells B.slots ∧ PostX ⟨T.setVm vm₁, locs, cells, slots⟩ (Value.ref a :: argsL).toArray q B ∧
      Steps p.tables e below (T.setTop g) ((B.U.setTop { g with stack := rest }).pushFrame (.throwing q))) := by
  subst hg
  have hpl : e.platform.magicAccessors = ({} : Platform).magicAccessors := by rw [X.admits.platform]
  obtain ⟨mk, methM, cM, kP, vm₁, hnamed, hmethM, hcodeM, -, hlocalsM, -, hkP, -, hW₁, hstep₁⟩ := Steps.initColdArgsNest (e := e) X.here hexec X.warmed hpl hown hy1 hy hlink hinst hcode (f := g) rfl hlen hstack hdg
  have X₁ := X.noted hW₁
  rcases hK g.method meth c ⟨T.setVm vm₁, locs, cells, slots⟩ { g with stack := rest } (.invokespecial index) mk (Value.ref a :: argsL).toArray X₁ rfl hsize hdg hW (X₁.named hnamed) (hpre vm₁ X₁.warmed) with ⟨v, B, X', hpost, hsteps⟩ | ⟨q, B, X', hpost, hsteps⟩
  · exact Or.inl ⟨v, vm₁, B, X₁.warmed, X', hpost, fun target h => hstep₁ _ fun acts => by rw [doInvoke_state]; exact hsteps.trans h⟩
  · exact Or.inr ⟨q, vm₁, B, X₁.warmed, X', hpost, hstep₁ _ fun acts => by rw [doInvoke_state]; exact hsteps⟩
end VXIC
section VXID
variable {p : Program} {l : Launch} {e : Env} {R : Room} {s : State} {m : MethodId} {args : Array Value} {below : List Frame} {meth : Method} {c : Code} {H : Heap} {locs : List Loc} {cells slots : Nat}
theorem vx_runIN {y : MethodName} {bytes cc : ByteArray} {maxL nL mc ms n index : Nat} {ws : List Cond} {rm : Room} {Pc : Array Value → State → Prop} {Qc : Array Value → State → Outcome → State → Prop} {XC : String → State → State → Prop} {free : Addr → Prop} {Ts : List Cond} {own host : String} {b : Addr} {As rest : List Value} {g : JFrame}
    (S : CallFix p m c cc nL s args Ts own) (hM : vx_Met l y ws rm Pc Qc XC mc ms free) (cw : va_CN R s args own index y host bytes maxL none ws rm mc ms n ∧ y.name = "<init>" ∧ (Cond.instanceMethod y).before args s = true) (hp : PreS s H Pc (.ref b :: As))
    (hg : g.method = m) (hn : As.length = n) (hsize : g.locals.size = nL) (hstack : g.stack = As.reverse ++ .ref b :: rest) (hW : 2 * g.monitorRoom + (rest.map fun v => v.category).sum ≤ 8) (hdg : decode cc g.pc = .ok (.invokespecial index, 3)) (hf : cells + mc ≤ R.cells ∧ slots + ms ≤ R.slots) :
    vx_Run p l e R s m args below meth c H locs cells slots mc ms g rest (Qc (Value.ref b :: As).toArray) XC free := by
  obtain ⟨⟨⟨hrc, hrs, hfr, hlo, hws, hcw⟩, hcode, hini, hy, hlen, hl⟩, hx1, hx2⟩ := cw
  have hK : vx_Back l R p e below s args y 3 8 (PreOf R mc ms Pc) (PostOf Qc mc ms free) (vx_Post XC mc ms free) := vx_back (bytes := bytes) (maxL := maxL) (ret := none) hM hp.1 hrc hrs hfr hlo hws hcw (fun a' U hW => word_at hW (Or.inl (by first | rfl | simp [Cond.onTables, Cond.keeps, Cond.steady])) hini)
  obtain ⟨hx, hb, hml, ho, -⟩ := S
  have hPc := hp.2
  intro T hT X
  rcases vx_callIN X hx (bytes := bytes) (maxL := maxL) ho hx1 hl hx2 hcode hy hK hg (hsize.trans hml.symm) (a := b) (argsL := As) (rest := rest) (fun sig h => hn.trans (hlen sig h)) hstack hW (by rw [hb]; exact hdg)
    (fun vm₁ hW₁ => ⟨hf.1, hf.2, hPc (T.setVm vm₁) hT hW₁⟩) with ⟨v, vm₁, ⟨U', l2, c2, s2⟩, hW₁, X', ⟨g', mk, t, L, e1, e2, hq, h1, hL, h2, h3⟩, st⟩ | ⟨q, vm₁, ⟨U', l2, c2, s2⟩, hW₁, X', ⟨g', mk, t, L, E, ce, e1, e2, hq, hce, hcv, hcl, h1, hL, h2, h3⟩, st⟩
  · dsimp only [Pt.U, Pt.locs, Pt.cells, Pt.slots] at X' e1 e2 h1 h2 h3 st
    subst h1; subst h2; subst h3
    exact Or.inl ⟨v, (T.setVm vm₁).calling g' mk (Value.ref b :: As).toArray, t, U', L, hT, X', hL, e1, e2, hq, st⟩
  · dsimp only [Pt.U, Pt.locs, Pt.cells, Pt.slots] at X' e1 e2 h1 h2 h3 st hcl
    subst h1; subst h2; subst h3
    exact Or.inr ⟨q, (T.setVm vm₁).calling g' mk (Value.ref b :: As).toArray, t, U', L, E, ce, hT, X', hL, e1, e2, hq, hce, hcv, vx_cls hW₁ hcl, st⟩
end VXID
/-! ===== END ===== -/
/-! ===== BEGIN a method of a class above, found by the receiver, that may throw (follows va_callVU, va_runU of this kit) ===== -/
section
variable {p : Program} {l : Launch} {e : Env} {R : Room} {s : State} {m : MethodId} {args : Array Value} {below : List Frame} {meth : Method} {c : Code} {H : Heap} {locs : List Loc} {cells slots : Nat}
theorem vx_callVU {T : State} {locs : List Loc} {cells slots : Nat} (X : Stand p l e R s m args below meth c T locs cells slots) (hexec : p.tables.exec = Jvm.exec) {own C owner : String} {index : Nat} {x y : MethodName} {bytes : ByteArray} {maxL : Nat} {ret : Option FieldType}
    (hown : s.vm.findClass own = some m.cls) (hlink : (Cond.methodLink own index x).before args s = true) (hsame : (Cond.sameMethod x.cls owner x.name x.desc).before args s = true)
    (hd0 : va_Decl s ⟨owner, x.name, x.desc⟩) (howner : owner ≠ "java/lang/invoke/MethodHandle" ∧ owner ≠ "java/lang/invoke/VarHandle")
    (hsel : (Cond.selects C x y).before args s = true) (hinst : (Cond.instanceMethod y).before args s = true) (hcode : (Cond.code y bytes maxL ret).before args s = true)
    {W : Nat} {Pre : Pt → Array Value → Prop} {Post : Pt → Array Value → Option Value → Pt → Prop} {PostX : Pt → Array Value → Addr → Pt → Prop} (hK : vx_Back l R p e below s args y 3 W Pre Post PostX)
    {b : Addr} {cellB : Cell} (hcell : T.heap[b]? = some cellB) (hobj : cellB.vm.isStatics = false) (hcls : s.vm.findClass C = some cellB.cls)
    {g : JFrame} (hg : g.method = m) (hsize : g.locals.size = c.maxLocals) {argsL rest : List Value} (hlen : ∀ sig, parseMethodDescriptor x.desc = some sig → argsL.length = sig.parameters.length)
    (hstack : g.stack = argsL.reverse ++ .ref b :: rest) (hW : 2 * g.monitorRoom + (rest.map fun v => v.category).sum ≤ W) (hdg : decode c.code g.pc = .ok (.invokevirtual index, 3))
    (hpre : ∀ vm₁, s.WarmedH vm₁ → Pre ⟨T.setVm vm₁, locs, cells, slots⟩ (Value.ref b :: argsL).toArray) :
    (∃ (v : Option Value) (vm₁ : Vm) (B : Pt), s.WarmedH vm₁ ∧ Stand p l e R s m args below meth c B.U B.locs B.cells B.slots ∧ Post ⟨T.setVm vm₁, locs, cells, slots⟩ (Value.ref b :: argsL).toArray v B ∧
      ∀ target, Steps p.tables e below (B.U.setTop { g with pc := g.pc + 3, stack := v.toList ++ rest }) target → Steps p.tables e below (T.setTop g) target) ∨
    (∃ (q : Addr) (vm₁ : Vm) (B : Pt), s.WarmedH vm₁ ∧ Stand p l e R s m args below meth c B.U B.locs B.cells B.slots ∧ PostX ⟨T.setVm vm₁, locs, cells, slots⟩ (Value.ref b :: argsL).toArray q B ∧
      Steps p.tables e below (T.setTop g) ((B.U.setTop { g with stack := rest }).pushFrame (.throwing q))) := by
  obtain ⟨r0, r, hn, hrm, hstR, hsigR⟩ := hd0
  obtain ⟨cn, ck, r1, hcn, hck, hni, hf, hn1⟩ := Cond.sameMethod_found hsame
  cases hn.symm.trans hn1
  obtain ⟨mk, methM, hnamed, hmethM, -, habM⟩ := Cond.instanceMethod_spec hinst
  obtain ⟨c2, r2, m2, q1, q2, q3, q4, kP, hkP, hkPi⟩ := Cond.selects_spec hsel
  cases hcls.symm.trans q1
  cases hf.symm.trans q2
  cases hnamed.symm.trans q3
  have hselP : selectMethod e.platform s.vm cellB.cls r0 = .method mk := by rw [Launch.admits_selectMethod X.admits]; exact q4
  obtain ⟨vm₁, X₁, hstep₁⟩ := X.invokevirtualUp hexec hown hlink hsame howner hn hrm hstR (a := b) (cell := cellB) hcell
    (fun z h => by rw [h] at hobj; cases hobj) hselP hmethM habM hkP hkPi (g := g) hg (argsL := argsL) (rest := rest) (hlen _ hsigR) hstack hdg
  rcases hK m meth c ⟨T.setVm vm₁, locs, cells, slots⟩ { g with stack := rest } (.invokevirtual index) mk (Value.ref b :: argsL).toArray X₁ hg hsize hdg hW (X₁.named hnamed) (hpre vm₁ X₁.warmed) with ⟨v, B, X', hpost, hsteps⟩ | ⟨q, B, X', hpost, hsteps⟩
  · exact Or.inl ⟨v, vm₁, B, X₁.warmed, X', hpost, fun target h => hstep₁ _ fun acts => by rw [doInvoke_state]; exact hsteps.trans h⟩
  · exact Or.inr ⟨q, vm₁, B, X₁.warmed, X', hpost, hstep₁ _ fun acts => by rw [doInvoke_state]; exact hsteps⟩
theorem vx_runU {x y : MethodName} {bytes cc : ByteArray} {maxL nL mc ms n index : Nat} {ret : Option FieldType} {ws : List Cond} {rm : Room} {Pc : Array Value → State → Prop} {Qc : Array Value → State → Outcome → State → Prop} {XC : String → State → State → Prop} {free : Addr → Prop} {Ts : List Cond} {own C owner : String} {b : Addr} {As rest : List Value} {g : JFrame}
    (S : CallFix p m c cc nL s args Ts own) (hM : vx_Met l y ws rm Pc Qc XC mc ms free) (cw : va_CU R s args own C owner index x y bytes maxL ret ws rm mc ms n) (hp : PreV s H C b Pc As)
    (hg : g.method = m) (hn : As.length = n) (hsize : g.locals.size = nL) (hstack : g.stack = As.reverse ++ .ref b :: rest) (hW : 2 * g.monitorRoom + (rest.map fun v => v.category).sum ≤ 8) (hdg : decode cc g.pc = .ok (.invokevirtual index, 3)) (hf : cells + mc ≤ R.cells ∧ slots + ms ≤ R.slots) :
    vx_Run p l e R s m args below meth c H locs cells slots mc ms g rest (Qc (Value.ref b :: As).toArray) XC free := by
  obtain ⟨hrc, hrs, hfr, hlo, hws, hcw⟩ := cw.back
  have hini := cw.init
  have hK : vx_Back l R p e below s args y 3 8 (PreOf R mc ms Pc) (PostOf Qc mc ms free) (vx_Post XC mc ms free) := vx_back (bytes := bytes) (maxL := maxL) (ret := ret) hM hp.1 hrc hrs hfr hlo hws hcw (fun a' U hW => word_at hW (Or.inl (by first | rfl | simp [Cond.onTables, Cond.keeps, Cond.steady])) hini)
  obtain ⟨hx, hb, hml, ho, -⟩ := S
  obtain ⟨-, ⟨cellB, hcB, hoB, hclB⟩, hPc⟩ := hp
  intro T hT X
  rcases vx_callVU X hx (C := C) (owner := owner) (bytes := bytes) (maxL := maxL) (ret := ret) ho cw.link cw.same cw.decl cw.notMH cw.sel cw.inst cw.code hK (by rw [hT]; exact hcB) hoB hclB hg (hsize.trans hml.symm) (argsL := As) (rest := rest) (fun sig h => hn.trans (cw.len sig h)) hstack hW (by rw [hb]; exact hdg)
    (fun vm₁ hW₁ => ⟨hf.1, hf.2, hPc (T.setVm vm₁) hT hW₁⟩) with ⟨v, vm₁, ⟨U', l2, c2, s2⟩, hW₁, X', ⟨g', mk, t, L, e1, e2, hq, h1, hL, h2, h3⟩, st⟩ | ⟨q, vm₁, ⟨U', l2, c2, s2⟩, hW₁, X', ⟨g', mk, t, L, E, ce, e1, e2, hq, hce, hcv, hcl, h1, hL, h2, h3⟩, st⟩
  · dsimp only [Pt.U, Pt.locs, Pt.cells, Pt.slots] at X' e1 e2 h1 h2 h3 st
    subst h1; subst h2; subst h3
    exact Or.inl ⟨v, (T.setVm vm₁).calling g' mk (Value.ref b :: As).toArray, t, U', L, hT, X', hL, e1, e2, hq, st⟩
  · dsimp only [Pt.U, Pt.locs, Pt.cells, Pt.slots] at X' e1 e2 h1 h2 h3 st hcl
    subst h1; subst h2; subst h3
    exact Or.inr ⟨q, (T.setVm vm₁).calling g' mk (Value.ref b :: As).toArray, t, U', L, E, ce, hT, X', hL, e1, e2, hq, hce, hcv, vx_cls hW₁ hcl, st⟩
end
/-! ===== END ===== -/
/-! ===== BEGIN super.m(..) that may throw (follows va_callSU, va_runSU) ===== -/
section
variable {p : Program} {l : Launch} {e : Env} {R : Room} {s : State} {m : MethodId} {args : Array Value} {below : List Frame} {meth : Method} {c : Code} {H : Heap} {locs : List Loc} {cells slots : Nat}
theorem vx_callSU {T : State} {locs : List Loc} {cells slots : Nat} (X : Stand p l e R s m args below meth c T locs cells slots) (hexec : p.tables.exec = Jvm.exec) {own : String} {index : Nat} {y : MethodName} {bytes : ByteArray} {maxL : Nat} {ret : Option FieldType}
    (hown : s.vm.findClass own = some m.cls) (hlink : (Cond.methodLink own index y).before args s = true) (hsame : (Cond.sameMethod y.cls y.cls y.name y.desc).before args s = true) (hsup : (Cond.superclass own y.cls).before args s = true)
    (hinst : (Cond.instanceMethod y).before args s = true) (hcode : (Cond.code y bytes maxL ret).before args s = true) (hno : y.name ≠ "<init>")
    {W : Nat} {Pre : Pt → Array Value → Prop} {Post : Pt → Array Value → Option Value → Pt → Prop} {PostX : Pt → Array Value → Addr → Pt → Prop} (hK : vx_Back l R p e below s args y 3 W Pre Post PostX)
    {b : Addr} {cellB : Cell} {kB : Class} (hcell : T.heap[b]? = some cellB) (hobj : cellB.vm.isStatics = false) (hkB : s.vm.classes[cellB.cls]? = some kB)
    {g : JFrame} (hg : g.method = m) (hsize : g.locals.size = c.maxLocals) {argsL rest : List Value} (hlen : ∀ sig, parseMethodDescriptor y.desc = some sig → argsL.length = sig.parameters.length)
    (hstack : g.stack = argsL.reverse ++ .ref b :: rest) (hW : 2 * g.monitorRoom + (rest.map fun v => v.category).sum ≤ W) (hdg : decode c.code g.pc = .ok (.invokespecial index, 3))
    (hpre : ∀ vm₁, s.WarmedH vm₁ → Pre ⟨T.setVm vm₁, locs, cells, slots⟩ (Value.ref b :: argsL).toArray) :
    (∃ (v : Option Value) (vm₁ : Vm) (B : Pt), s.WarmedH vm₁ ∧ Stand p l e R s m args below meth c B.U B.locs B.cells B.slots ∧ Post ⟨T.setVm vm₁, locs, cells, slots⟩ (Value.ref b :: argsL).toArray v B ∧
      ∀ target, Steps p.tables e below (B.U.setTop { g with pc := g.pc + 3, stack := v.toList ++ rest }) target → Steps p.tables e below (T.setTop g) target) ∨
    (∃ (q : Addr) (vm₁ : Vm) (B : Pt), s.WarmedH vm₁ ∧ Stand p l e R s m args below meth c B.U B.locs B.cells B.slots ∧ PostX ⟨T.setVm vm₁, locs, cells, slots⟩ (Value.ref b :: argsL).toArray q B ∧
      Steps p.tables e below (T.setTop g) ((B.U.setTop { g with stack := rest }).pushFrame (.throwing q))) := by
  obtain ⟨mk, methM, hnamed, hmethM, hstM, habM⟩ := Cond.instanceMethod_spec hinst
  obtain ⟨methM', cM, hmethM', -, -, -, -, -, -, hsigM⟩ := Cond.code_spec hnamed hcode
  cases hmethM.symm.trans hmethM'
  obtain ⟨ps, dk, kp, hps, hdk, hkp, hsuper, -, -, hnid⟩ := Cond.superclass_spec hown hsup
  have hn : s.methodNamed? ⟨y.cls, y.name, y.desc⟩ = some mk := hnamed
  have hpm : ps = mk.cls := Option.some.inj (hps.symm.trans (findClass_of_methodNamed hnamed))
  have hsub : s.vm.isSubclass ps mk.cls = true := by rw [hpm]; simp [Vm.isSubclass, Vm.isSubclassAux]
  obtain ⟨vm₁, X₁, hstep₁⟩ := X.invokespecialUp hexec hown hlink hsame hn hmethM hstM habM hno hdk hnid hps hsuper hsub (a := b) (cell := cellB) hcell
    (fun z h => by rw [h] at hobj; cases hobj) hkB (g := g) hg (argsL := argsL) (rest := rest) (hlen _ hsigM) hstack hdg
  rcases hK m meth c ⟨T.setVm vm₁, locs, cells, slots⟩ { g with stack := rest } (.invokespecial index) mk (Value.ref b :: argsL).toArray X₁ hg hsize hdg hW (X₁.named hnamed) (hpre vm₁ X₁.warmed) with ⟨v, B, X', hpost, hsteps⟩ | ⟨q, B, X', hpost, hsteps⟩
  · exact Or.inl ⟨v, vm₁, B, X₁.warmed, X', hpost, fun target h => hstep₁ _ (by rw [doInvoke_state]; exact hsteps.trans h)⟩
  · exact Or.inr ⟨q, vm₁, B, X₁.warmed, X', hpost, hstep₁ _ (by rw [doInvoke_state]; exact hsteps)⟩
theorem vx_runSU {y : MethodName} {bytes cc : ByteArray} {maxL nL mc ms n index : Nat} {ret : Option FieldType} {ws : List Cond} {rm : Room} {Pc : Array Value → State → Prop} {Qc : Array Value → State → Outcome → State → Prop} {XC : String → State → State → Prop} {free : Addr → Prop} {Ts : List Cond} {own C : String} {cC : ClassId} {b : Addr} {As rest : List Value} {g : JFrame}
    (hat : ClassAt s C cC) (S : CallFix p m c cc nL s args Ts own) (hM : vx_Met l y ws rm Pc Qc XC mc ms free) (cw : va_CS R s args own index y bytes maxL ret ws rm mc ms n) (hp : PreV s H C b Pc As)
    (hg : g.method = m) (hn : As.length = n) (hsize : g.locals.size = nL) (hstack : g.stack = As.reverse ++ .ref b :: rest) (hW : 2 * g.monitorRoom + (rest.map fun v => v.category).sum ≤ 8) (hdg : decode cc g.pc = .ok (.invokespecial index, 3)) (hf : cells + mc ≤ R.cells ∧ slots + ms ≤ R.slots) :
    vx_Run p l e R s m args below meth c H locs cells slots mc ms g rest (Qc (Value.ref b :: As).toArray) XC free := by
  obtain ⟨⟨hrc, hrs, hfr, hlo, hws, hcw⟩, hl1, hl2, hl3, hl4, hini, hcode, hno, hlen⟩ := cw
  have hK : vx_Back l R p e below s args y 3 8 (PreOf R mc ms Pc) (PostOf Qc mc ms free) (vx_Post XC mc ms free) := vx_back (bytes := bytes) (maxL := maxL) (ret := ret) hM hp.1 hrc hrs hfr hlo hws hcw (fun a' U hW => word_at hW (Or.inl (by first | rfl | simp [Cond.onTables, Cond.keeps, Cond.steady])) hini)
  obtain ⟨hx, hb, hml, ho, -⟩ := S
  obtain ⟨-, ⟨cellB, hcB, hoB, hclB⟩, hPc⟩ := hp
  obtain ⟨hfc, kB, hkB, -⟩ := hat
  cases hfc.symm.trans hclB
  intro T hT X
  rcases vx_callSU X hx (bytes := bytes) (maxL := maxL) (ret := ret) ho hl1 hl2 hl3 hl4 hcode hno hK (by rw [hT]; exact hcB) hoB hkB hg (hsize.trans hml.symm) (argsL := As) (rest := rest) (fun sig h => hn.trans (hlen sig h)) hstack hW (by rw [hb]; exact hdg)
    (fun vm₁ hW₁ => ⟨hf.1, hf.2, hPc (T.setVm vm₁) hT hW₁⟩) with ⟨v, vm₁, ⟨U', l2, c2, s2⟩, hW₁, X', ⟨g', mk, t, L, e1, e2, hq, h1, hL, h2, h3⟩, st⟩ | ⟨q, vm₁, ⟨U', l2, c2, s2⟩, hW₁, X', ⟨g', mk, t, L, E, ce, e1, e2, hq, hce, hcv, hcl, h1, hL, h2, h3⟩, st⟩
  · dsimp only [Pt.U, Pt.locs, Pt.cells, Pt.slots] at X' e1 e2 h1 h2 h3 st
    subst h1; subst h2; subst h3
    exact Or.inl ⟨v, (T.setVm vm₁).calling g' mk (Value.ref b :: As).toArray, t, U', L, hT, X', hL, e1, e2, hq, st⟩
  · dsimp only [Pt.U, Pt.locs, Pt.cells, Pt.slots] at X' e1 e2 h1 h2 h3 st hcl
    subst h1; subst h2; subst h3
    exact Or.inr ⟨q, (T.setVm vm₁).calling g' mk (Value.ref b :: As).toArray, t, U', L, E, ce, hT, X', hL, e1, e2, hq, hce, hcv, vx_cls hW₁ hcl, st⟩
end
/-! ===== END ===== -/
/-! ===== BEGIN a private method of a nest mate that may throw (follows va_callVN, va_callSN, va_runVN, va_runSN) ===== -/
section
variable {p : Program} {l : Launch} {e : Env} {R : Room} {s : State} {m : MethodId} {args : Array Value} {below : List Frame} {meth : Method} {c : Code} {H : Heap} {locs : List Loc} {cells slots : Nat}
variable {T : State}
theorem vx_callVN (X : Stand p l e R s m args below meth c T locs cells slots) (hexec : p.tables.exec = Jvm.exec) {own C : String} {index : Nat} {host : String} {y : MethodName} {bytes : ByteArray} {maxL : Nat} {ret : Option FieldType}
    (hown : s.vm.findClass own = some m.cls) (hlink : (Cond.methodLinkNest own index y host).before args s = true) (hinst : (Cond.instanceMethod y).before args s = true) (hsel : (Cond.selects C y y).before args s = true)
    (hcode : (Cond.code y bytes maxL ret).before args s = true) (hy : y.cls ≠ "java/lang/invoke/MethodHandle" ∧ y.cls ≠ "java/lang/invoke/VarHandle")
    {W : Nat} {Pre : Pt → Array Value → Prop} {Post : Pt → Array Value → Option Value → Pt → Prop} {PostX : Pt → Array Value → Addr → Pt → Prop} (hK : vx_Back l R p e below s args y 3 W Pre Post PostX)
    {b : Addr} {cellB : Cell} (hcell : T.heap[b]? = some cellB) (hobj : cellB.vm.isStatics = false) (hcls : s.vm.findClass C = some cellB.cls)
    {g : JFrame} (hg : g.method = m) (hsize : g.locals.size = c.maxLocals) {argsL rest : List Value} (hlen : ∀ sig, parseMethodDescriptor y.desc = some sig → argsL.length = sig.parameters.length)
    (hstack : g.stack = argsL.reverse ++ .ref b :: rest) (hW : 2 * g.monitorRoom + (rest.map fun v => v.category).sum ≤ W) (hdg : decode c.code g.pc = .ok (.invokevirtual index, 3))
    (hpre : ∀ vm₁, s.WarmedH vm₁ → Pre ⟨T.setVm vm₁, locs, cells, slots⟩ (Value.ref b :: argsL).toArray) :
    (∃ (v : Option Value) (vm₁ : Vm) (B : Pt), s.WarmedH vm₁ ∧ Stand p l e R s m args below meth c B.U B.locs B.cells B.slots ∧ Post ⟨T.setVm vm₁, locs, cells, slots⟩ (Value.ref b :: argsL).toArray v B ∧
      ∀ target, Steps p.tables e below (B.U.setTop { g with pc := g.pc + 3, stack := v.toList ++ rest }) target → Steps p.tables e below (T.setTop g) target) ∨
    (∃ (q : Addr) (vm₁ : Vm) (B : Pt), s.WarmedH vm₁ ∧ Stand p l e R s m args below meth c B.U B.locs B.cells B.slots ∧ PostX ⟨T.setVm vm₁, locs, cells, slots⟩ (Value.ref b :: argsL).toArray q B ∧
      Steps p.tables e below (T.setTop g) ((B.U.setTop { g with stack := rest }).pushFrame (.throwing q))) := by
  obtain ⟨mk, methM, hnamed, hmethM, hstM, habM⟩ := Cond.instanceMethod_spec hinst
  obtain ⟨methM', cM, hmethM', -, -, -, -, -, -, hsigM⟩ := Cond.code_spec hnamed hcode
  cases hmethM.symm.trans hmethM'
  obtain ⟨c2, r2, m2, q1, q2, q3, q4, kP, hkP, hkPi⟩ := Cond.selects_spec hsel
  cases hcls.symm.trans q1
  cases (State.methodFound?_of_named hnamed hy).symm.trans q2
  cases hnamed.symm.trans q3
  have hselP : selectMethod e.platform s.vm cellB.cls mk = .method mk := by rw [Launch.admits_selectMethod X.admits]; exact q4
  obtain ⟨vm₁, X₁, hstep₁⟩ := X.invokevirtualNest hexec hown hlink hnamed hmethM hstM hkP hkPi hy (a := b) (cell := cellB) hcell
    (fun z h => by rw [h] at hobj; cases hobj) hselP hmethM habM hkP hkPi (g := g) hg (argsL := argsL) (rest := rest) (hlen _ hsigM) hstack hdg
  rcases hK m meth c ⟨T.setVm vm₁, locs, cells, slots⟩ { g with stack := rest } (.invokevirtual index) mk (Value.ref b :: argsL).toArray X₁ hg hsize hdg hW (X₁.named hnamed) (hpre vm₁ X₁.warmed) with ⟨v, B, X', hpost, hsteps⟩ | ⟨q, B, X', hpost, hsteps⟩
  · exact Or.inl ⟨v, vm₁, B, X₁.warmed, X', hpost, fun target h => hstep₁ _ fun acts => by rw [doInvoke_state]; exact hsteps.trans h⟩
  · exact Or.inr ⟨q, vm₁, B, X₁.warmed, X', hpost, hstep₁ _ fun acts => by rw [doInvoke_state]; exact hsteps⟩
theorem vx_callSN (X : Stand p l e R s m args below meth c T locs cells slots) (hexec : p.tables.exec = Jvm.exec) {own : String} {index : Nat} {host : String} {y : MethodName} {bytes : ByteArray} {maxL : Nat} {ret : Option FieldType}
    (hown : s.vm.findClass own = some m.cls) (hlink : (Cond.methodLinkNest own index y host).before args s = true) (hstat : (Cond.static y).before args s = true) (hinit : (Cond.initialized y.cls).before args s = true)
    (hcode : (Cond.code y bytes maxL ret).before args s = true) (hy : y.cls ≠ "java/lang/invoke/MethodHandle" ∧ y.cls ≠ "java/lang/invoke/VarHandle")
    {W : Nat} {Pre : Pt → Array Value → Prop} {Post : Pt → Array Value → Option Value → Pt → Prop} {PostX : Pt → Array Value → Addr → Pt → Prop} (hK : vx_Back l R p e below s args y 3 W Pre Post PostX)
    {g : JFrame} (hg : g.method = m) (hsize : g.locals.size = c.maxLocals) {argsL rest : List Value} (hlen : ∀ sig, parseMethodDescriptor y.desc = some sig → argsL.length = sig.parameters.length)
    (hstack : g.stack = argsL.reverse ++ rest) (hW : 2 * g.monitorRoom + (rest.map fun v => v.category).sum ≤ W) (hdg : decode c.code g.pc = .ok (.invokestatic index, 3))
    (hpre : ∀ vm₁, s.WarmedH vm₁ → Pre ⟨T.setVm vm₁, locs, cells, slots⟩ argsL.toArray) :
    (∃ (v : Option Value) (vm₁ : Vm) (B : Pt), s.WarmedH vm₁ ∧ Stand p l e R s m args below meth c B.U B.locs B.cells B.slots ∧ Post ⟨T.setVm vm₁, locs, cells, slots⟩ argsL.toArray v B ∧
      ∀ target, Steps p.tables e below (B.U.setTop { g with pc := g.pc + 3, stack := v.toList ++ rest }) target → Steps p.tables e below (T.setTop g) target) ∨
    (∃ (q : Addr) (vm₁ : Vm) (B : Pt), s.WarmedH vm₁ ∧ Stand p l e R s m args below meth c B.U B.locs B.cells B.slots ∧ PostX ⟨T.setVm vm₁, locs, cells, slots⟩ argsL.toArray q B ∧
      Steps p.tables e below (T.setTop g) ((B.U.setTop { g with stack := rest }).pushFrame (.throwing q))) := by
  obtain ⟨mk, hnamed⟩ := Cond.code_named hcode
  obtain ⟨methM, cM, hmethM, -, -, -, -, -, -, hsigM⟩ := Cond.code_spec hnamed hcode
  have hstatic : methM.isStatic = true := Cond.static_spec hnamed hmethM hstat
  obtain ⟨kP, hkP, -⟩ := className_of_methodNamed hnamed
  have hinitP : kP.init = .initialized := Cond.initialized_spec (findClass_of_methodNamed hnamed) hkP hinit
  obtain ⟨vm₁, X₁, hstep₁⟩ := X.invokestaticNest hexec hown hlink hnamed hmethM hstatic hkP hinitP hy (g := g) hg (argsL := argsL) (rest := rest) (hlen _ hsigM) hstack hdg
  rcases hK m meth c ⟨T.setVm vm₁, locs, cells, slots⟩ { g with stack := rest } (.invokestatic index) mk argsL.toArray X₁ hg hsize hdg hW (X₁.named hnamed) (hpre vm₁ X₁.warmed) with ⟨v, B, X', hpost, hsteps⟩ | ⟨q, B, X', hpost, hsteps⟩
  · exact Or.inl ⟨v, vm₁, B, X₁.warmed, X', hpost, fun target h => hstep₁ _ fun acts => by rw [doInvoke_state]; exact hsteps.trans h⟩
  · exact Or.inr ⟨q, vm₁, B, X₁.warmed, X', hpost, hstep₁ _ fun acts => by rw [doInvoke_state]; exact hsteps⟩
theorem vx_runVN {y : MethodName} {bytes cc : ByteArray} {maxL nL mc ms n index : Nat} {ret : Option FieldType} {ws : List Cond} {rm : Room} {Pc : Array Value → State → Prop} {Qc : Array Value → State → Outcome → State → Prop} {XC : String → State → State → Prop} {free : Addr → Prop} {Ts : List Cond} {own C host : String} {b : Addr} {As rest : List Value} {g : JFrame}
    (S : CallFix p m c cc nL s args Ts own) (hM : vx_Met l y ws rm Pc Qc XC mc ms free) (cw : va_CN R s args own index y host bytes maxL ret ws rm mc ms n ∧ (Cond.instanceMethod y).before args s = true ∧ (Cond.selects C y y).before args s = true) (hp : PreV s H C b Pc As)
    (hg : g.method = m) (hn : As.length = n) (hsize : g.locals.size = nL) (hstack : g.stack = As.reverse ++ .ref b :: rest) (hW : 2 * g.monitorRoom + (rest.map fun v => v.category).sum ≤ 8) (hdg : decode cc g.pc = .ok (.invokevirtual index, 3)) (hf : cells + mc ≤ R.cells ∧ slots + ms ≤ R.slots) :
    vx_Run p l e R s m args below meth c H locs cells slots mc ms g rest (Qc (Value.ref b :: As).toArray) XC free := by
  obtain ⟨⟨⟨hrc, hrs, hfr, hlo, hws, hcw⟩, hcode, hini, hy, hlen, hl⟩, hx1, hx2⟩ := cw
  have hK : vx_Back l R p e below s args y 3 8 (PreOf R mc ms Pc) (PostOf Qc mc ms free) (vx_Post XC mc ms free) := vx_back (bytes := bytes) (maxL := maxL) (ret := ret) hM hp.1 hrc hrs hfr hlo hws hcw (fun a' U hW => word_at hW (Or.inl (by first | rfl | simp [Cond.onTables, Cond.keeps, Cond.steady])) hini)
  obtain ⟨hx, hb, hml, ho, -⟩ := S
  obtain ⟨-, ⟨cellB, hcB, hoB, hclB⟩, hPc⟩ := hp
  intro T hT X
  rcases vx_callVN X hx (C := C) (bytes := bytes) (maxL := maxL) (ret := ret) ho hl hx1 hx2 hcode hy hK (by rw [hT]; exact hcB) hoB hclB hg (hsize.trans hml.symm) (argsL := As) (rest := rest) (fun sig h => hn.trans (hlen sig h)) hstack hW (by rw [hb]; exact hdg)
    (fun vm₁ hW₁ => ⟨hf.1, hf.2, hPc (T.setVm vm₁) hT hW₁⟩) with ⟨v, vm₁, ⟨U', l2, c2, s2⟩, hW₁, X', ⟨g', mk, t, L, e1, e2, hq, h1, hL, h2, h3⟩, st⟩ | ⟨q, vm₁, ⟨U', l2, c2, s2⟩, hW₁, X', ⟨g', mk, t, L, E, ce, e1, e2, hq, hce, hcv, hcl, h1, hL, h2, h3⟩, st⟩
  · dsimp only [Pt.U, Pt.locs, Pt.cells, Pt.slots] at X' e1 e2 h1 h2 h3 st
    subst h1; subst h2; subst h3
    exact Or.inl ⟨v, (T.setVm vm₁).calling g' mk (Value.ref b :: As).toArray, t, U', L, hT, X', hL, e1, e2, hq, st⟩
  · dsimp only [Pt.U, Pt.locs, Pt.cells, Pt.slots] at X' e1 e2 h1 h2 h3 st hcl
    subst h1; subst h2; subst h3
    exact Or.inr ⟨q, (T.setVm vm₁).calling g' mk (Value.ref b :: As).toArray, t, U', L, E, ce, hT, X', hL, e1, e2, hq, hce, hcv, vx_cls hW₁ hcl, st⟩
theorem vx_runSN {y : MethodName} {bytes cc : ByteArray} {maxL nL mc ms n index : Nat} {ret : Option FieldType} {ws : List Cond} {rm : Room} {Pc : Array Value → State → Prop} {Qc : Array Value → State → Outcome → State → Prop} {XC : String → State → State → Prop} {free : Addr → Prop} {Ts : List Cond} {own host : String} {As rest : List Value} {g : JFrame}
    (S : CallFix p m c cc nL s args Ts own) (hM : vx_Met l y ws rm Pc Qc XC mc ms free) (cw : va_CN R s args own index y host bytes maxL ret ws rm mc ms n ∧ (Cond.static y).before args s = true ∧ True) (hp : PreS s H Pc As)
    (hg : g.method = m) (hn : As.length = n) (hsize : g.locals.size = nL) (hstack : g.stack = As.reverse ++ rest) (hW : 2 * g.monitorRoom + (rest.map fun v => v.category).sum ≤ 8) (hdg : decode cc g.pc = .ok (.invokestatic index, 3)) (hf : cells + mc ≤ R.cells ∧ slots + ms ≤ R.slots) :
    vx_Run p l e R s m args below meth c H locs cells slots mc ms g rest (Qc As.toArray) XC free := by
  obtain ⟨⟨⟨hrc, hrs, hfr, hlo, hws, hcw⟩, hcode, hini, hy, hlen, hl⟩, hx1, hx2⟩ := cw
  have hK : vx_Back l R p e below s args y 3 8 (PreOf R mc ms Pc) (PostOf Qc mc ms free) (vx_Post XC mc ms free) := vx_back (bytes := bytes) (maxL := maxL) (ret := ret) hM hp.1 hrc hrs hfr hlo hws hcw (fun a' U hW => word_at hW (Or.inl (by first | rfl | simp [Cond.onTables, Cond.keeps, Cond.steady])) hini)
  obtain ⟨hx, hb, hml, ho, -⟩ := S
  have hPc := hp.2
  intro T hT X
  rcases vx_callSN X hx (bytes := bytes) (maxL := maxL) (ret := ret) ho hl hx1 hini hcode hy hK hg (hsize.trans hml.symm) (argsL := As) (rest := rest) (fun sig h => hn.trans (hlen sig h)) hstack hW (by rw [hb]; exact hdg)
    (fun vm₁ hW₁ => ⟨hf.1, hf.2, hPc (T.setVm vm₁) hT hW₁⟩) with ⟨v, vm₁, ⟨U', l2, c2, s2⟩, hW₁, X', ⟨g', mk, t, L, e1, e2, hq, h1, hL, h2, h3⟩, st⟩ | ⟨q, vm₁, ⟨U', l2, c2, s2⟩, hW₁, X', ⟨g', mk, t, L, E, ce, e1, e2, hq, hce, hcv, hcl, h1, hL, h2, h3⟩, st⟩
  · dsimp only [Pt.U, Pt.locs, Pt.cells, Pt.slots] at X' e1 e2 h1 h2 h3 st
    subst h1; subst h2; subst h3
    exact Or.inl ⟨v, (T.setVm vm₁).calling g' mk As.toArray, t, U', L, hT, X', hL, e1, e2, hq, st⟩
  · dsimp only [Pt.U, Pt.locs, Pt.cells, Pt.slots] at X' e1 e2 h1 h2 h3 st hcl
    subst h1; subst h2; subst h3
    exact Or.inr ⟨q, (T.setVm vm₁).calling g' mk As.toArray, t, U', L, E, ce, hT, X', hL, e1, e2, hq, hce, hcv, vx_cls hW₁ hcl, st⟩
end
/-! ===== END ===== -/
/-! ===== BEGIN calls by an interface of methods that may throw (vx_callIF, vx_runF follow va_callIF, va_runF of this kit) ===== -/
section
variable {p : Program} {l : Launch} {e : Env} {R : Room} {s : State} {m : MethodId} {args : Array Value} {below : List Frame} {meth : Method} {c : Code} {H : Heap} {locs : List Loc} {cells slots : Nat} {Q : State → Prop}
variable {mc ms : Nat} {free : Addr → Prop} {A0 A1 : Nat → Prop} {H0 : Heap} {a : Array Value} {pc : Nat} {ls : Array Slot} {st0 rest : List Value}
def vx_Run5 (p : Program) (l : Launch) (e : Env) (R : Room) (s : State) (m : MethodId) (args : Array Value) (below : List Frame) (meth : Method) (c : Code) (H : Heap) (locs : List Loc) (cells slots mc ms : Nat) (g : JFrame) (rest : List Value) (Qa : State → Outcome → State → Prop) (XC : String → State → State → Prop) (free : Addr → Prop) : Prop :=
  ∀ T : State, T.heap = H → Stand p l e R s m args below meth c T locs cells slots →
    (∃ (v : Option Value) (st₀ t T' : State) (L : List Loc), st₀.heap = H ∧ Stand p l e R s m args below meth c T' (locs ++ L) (cells + mc) (slots + ms) ∧ (∀ q ∈ L, free q.base) ∧ T'.heap = t.heap ∧ T'.vm = t.vm ∧ Qa st₀ (.returned v) t ∧
      Goes p e below T g T' { g with pc := g.pc + 5, stack := v.toList ++ rest }) ∨
    (∃ (q : Addr) (st₀ t T' : State) (L : List Loc) (E : String) (ce : Cell), st₀.heap = H ∧ Stand p l e R s m args below meth c T' (locs ++ L) (cells + mc) (slots + ms) ∧ (∀ z ∈ L, free z.base) ∧ T'.heap = t.heap ∧ T'.vm = t.vm ∧ XC E st₀ t ∧ t.heap[q]? = some ce ∧ ce.vm = .none ∧ s.vm.findClass E = some ce.cls ∧
      Steps p.tables e below (T.setTop g) ((T'.setTop { g with stack := rest }).pushFrame (.throwing q)))
theorem vx_callIF {T : State} (X : Stand p l e R s m args below meth c T locs cells slots) (hexec : p.tables.exec = Jvm.exec) {own C : String} {index count : Nat} {x y : MethodName} {bytes : ByteArray} {maxL : Nat} {ret : Option FieldType}
    (hown : s.vm.findClass own = some m.cls) (hlink : (Cond.methodLink own index x).before args s = true) (hdecl : (Cond.declares x).before args s = true) (hface : (Cond.interfaceMethod x.cls x.cls x.name x.desc).before args s = true)
    (hsel : (Cond.selects C x y).before args s = true) (hinst : (Cond.instanceMethod y).before args s = true) (hpub : (Cond.publicMethod y).before args s = true) (hunh : (Cond.unhidden C x.name x.desc).before args s = true)
    (hcast : (Cond.castable C x.cls).before args s = true) (hcode : (Cond.code y bytes maxL ret).before args s = true) (hx : x.cls ≠ "java/lang/invoke/MethodHandle" ∧ x.cls ≠ "java/lang/invoke/VarHandle")
    {W9 : Nat} {Pre : Pt → Array Value → Prop} {Post : Pt → Array Value → Option Value → Pt → Prop} {PostX : Pt → Array Value → Addr → Pt → Prop} (hK : vx_Back l R p e below s args y 5 W9 Pre Post PostX)
    {b : Addr} {cellB : Cell} {kB : Class} (hcell : T.heap[b]? = some cellB) (hobj : cellB.vm.isStatics = false) (hcls : s.vm.findClass C = some cellB.cls) (hkB : s.vm.classes[cellB.cls]? = some kB)
    {g : JFrame} (hg : g.method = m) (hsize : g.locals.size = c.maxLocals) {argsL rest : List Value} (hlen : ∀ sig, parseMethodDescriptor x.desc = some sig → argsL.length = sig.parameters.length)
    (hstack : g.stack = argsL.reverse ++ .ref b :: rest) (hW : 2 * g.monitorRoom + (rest.map fun v => v.category).sum ≤ W9) (hdg : decode c.code g.pc = .ok (.invokeinterface index count, 5))
    (hpre : ∀ vm₁, s.WarmedH vm₁ → Pre ⟨T.setVm vm₁, locs, cells, slots⟩ (Value.ref b :: argsL).toArray) :
    (∃ (v : Option Value) (vm₁ : Vm) (B : Pt), s.WarmedH vm₁ ∧ Stand p l e R s m args below meth c B.U B.locs B.cells B.slots ∧ Post ⟨T.setVm vm₁, locs, cells, slots⟩ (Value.ref b :: argsL).toArray v B ∧
      ∀ target, Steps p.tables e below (B.U.setTop { g with pc := g.pc + 5, stack := v.toList ++ rest }) target → Steps p.tables e below (T.setTop g) target) ∨
    (∃ (q : Addr) (vm₁ : Vm) (B : Pt), s.WarmedH vm₁ ∧ Stand p l e R s m args below meth c B.U B.locs B.cells B.slots ∧ PostX ⟨T.setVm vm₁, locs, cells, slots⟩ (Value.ref b :: argsL).toArray q B ∧
      Steps p.tables e below (T.setTop g) ((B.U.setTop { g with stack := rest }).pushFrame (.throwing q))) := by
  obtain ⟨r0, r, hn, hrm, hstR, hsigR⟩ := Cond.declares_spec hdecl
  obtain ⟨cL, kL, r1, hcL, hkL, hiL, hfoundL, hn1⟩ := Cond.interfaceMethod_spec hface
  cases hn.symm.trans hn1
  have hr0cls : r0.cls = cL := Option.some.inj ((findClass_of_methodNamed hn).symm.trans hcL)
  obtain ⟨hnameR, hdescR⟩ := name_of_methodNamed hn hrm
  obtain ⟨mk, methM, hnamed, hmethM, -, habM⟩ := Cond.instanceMethod_spec hinst
  obtain ⟨c2, r2, m2, q1, q2, q3, q4, -⟩ := Cond.selects_spec hsel
  cases hcls.symm.trans q1
  cases hfoundL.symm.trans q2
  cases hnamed.symm.trans q3
  have hselP : selectMethod e.platform s.vm cellB.cls r0 = .method mk := by rw [Launch.admits_selectMethod X.admits]; exact q4
  have hpubM : hasFlag methM.accessFlags Acc.public_ = true := Cond.publicMethod_spec hnamed hmethM hpub
  have hway : ((cellB.cls :: s.vm.superclasses cellB.cls).any fun k => (declaredIn s.vm r.name r.desc k).any fun (_, z) => z.isPrivate || z.isStatic) = false := by
    rw [hnameR, hdescR]; exact Cond.unhidden_spec hcls hunh
  obtain ⟨c3, t3, w1, w2, w3⟩ := Cond.castable_spec hcast
  cases hcls.symm.trans w1
  cases hcL.symm.trans w2
  obtain ⟨vm₁, X₁, hstep₁⟩ := X.invokeinterface hexec hown hlink hn hrm hstR (by rw [hr0cls]; exact hkL) hiL hx (a := b) (cell := cellB) (kcell := kB) hcell
    (fun z h => by rw [h] at hobj; cases hobj) hkB (by rw [hr0cls]; exact w3) hselP hmethM hway hpubM habM (g := g) hg (argsL := argsL) (rest := rest) (hlen _ hsigR) hstack hdg
  rcases hK m meth c ⟨T.setVm vm₁, locs, cells, slots⟩ { g with stack := rest } (.invokeinterface index count) mk (Value.ref b :: argsL).toArray X₁ hg hsize hdg hW (X₁.named hnamed) (hpre vm₁ X₁.warmed) with ⟨v, B, X', hpost, hsteps⟩ | ⟨q, B, X', hpost, hsteps⟩
  · exact Or.inl ⟨v, vm₁, B, X₁.warmed, X', hpost, fun target h => hstep₁ _ fun acts => by rw [doInvoke_state]; exact hsteps.trans h⟩
  · exact Or.inr ⟨q, vm₁, B, X₁.warmed, X', hpost, hstep₁ _ fun acts => by rw [doInvoke_state]; exact hsteps⟩
theorem vx_runF {x y : MethodName} {bytes cc : ByteArray} {maxL nL mc ms n index count : Nat} {ret : Option FieldType} {ws : List Cond} {rm : Room} {Pc : Array Value → State → Prop} {Qc : Array Value → State → Outcome → State → Prop} {XC : String → State → State → Prop} {free : Addr → Prop} {Ts : List Cond} {own C : String} {cC : ClassId} {b : Addr} {As rest : List Value} {g : JFrame}
    (hat : ClassAt s C cC) (S : CallFix p m c cc nL s args Ts own) (hM : vx_Met l y ws rm Pc Qc XC mc ms free) (cw : va_CI R s args own C index x y bytes maxL ret ws rm mc ms n) (hp : PreV s H C b Pc As)
    (hg : g.method = m) (hn : As.length = n) (hsize : g.locals.size = nL) (hstack : g.stack = As.reverse ++ .ref b :: rest) (hW : 2 * g.monitorRoom + (rest.map fun v => v.category).sum ≤ 8) (hdg : decode cc g.pc = .ok (.invokeinterface index count, 5)) (hf : cells + mc ≤ R.cells ∧ slots + ms ≤ R.slots) :
    vx_Run5 p l e R s m args below meth c H locs cells slots mc ms g rest (Qc (Value.ref b :: As).toArray) XC free := by
  obtain ⟨hrc, hrs, hfr, hlo, hws, hcw⟩ := cw.back
  have hini := cw.init
  have hK : vx_Back l R p e below s args y 5 8 (PreOf R mc ms Pc) (PostOf Qc mc ms free) (vx_Post XC mc ms free) := vx_back (bytes := bytes) (maxL := maxL) (ret := ret) hM hp.1 hrc hrs hfr hlo hws hcw (fun a' U hW => word_at hW (Or.inl (by first | rfl | simp [Cond.onTables, Cond.keeps, Cond.steady])) hini)
  obtain ⟨hx, hb, hml, ho, -⟩ := S
  obtain ⟨-, ⟨cellB, hcB, hoB, hclB⟩, hPc⟩ := hp
  obtain ⟨hfc, kB, hkB, -⟩ := hat
  cases hfc.symm.trans hclB
  intro T hT X
  rcases vx_callIF X hx (C := C) (bytes := bytes) (maxL := maxL) (ret := ret) ho cw.link cw.decl cw.face cw.sel cw.inst cw.pub cw.unh cw.cast cw.code cw.notMH hK (by rw [hT]; exact hcB) hoB hclB hkB hg (hsize.trans hml.symm) (argsL := As) (rest := rest) (fun sig h => hn.trans (cw.len sig h)) hstack hW (by rw [hb]; exact hdg)
    (fun vm₁ hW₁ => ⟨hf.1, hf.2, hPc (T.setVm vm₁) hT hW₁⟩) with ⟨v, vm₁, ⟨U', l2, c2, s2⟩, hW₁, X', ⟨g', mk, t, L, e1, e2, hq, h1, hL, h2, h3⟩, st⟩ | ⟨q, vm₁, ⟨U', l2, c2, s2⟩, hW₁, X', ⟨g', mk, t, L, E, ce, e1, e2, hq, hce, hcv, hcl, h1, hL, h2, h3⟩, st⟩
  · dsimp only [Pt.U, Pt.locs, Pt.cells, Pt.slots] at X' e1 e2 h1 h2 h3 st
    subst h1; subst h2; subst h3
    exact Or.inl ⟨v, (T.setVm vm₁).calling g' mk (Value.ref b :: As).toArray, t, U', L, hT, X', hL, e1, e2, hq, st⟩
  · dsimp only [Pt.U, Pt.locs, Pt.cells, Pt.slots] at X' e1 e2 h1 h2 h3 st hcl
    subst h1; subst h2; subst h3
    exact Or.inr ⟨q, (T.setVm vm₁).calling g' mk (Value.ref b :: As).toArray, t, U', L, E, ce, hT, X', hL, e1, e2, hq, hce, hcv, vx_cls hW₁ hcl, st⟩
theorem vx_callFv {S SX : Type} {post : S → Prop} {px : SX → Prop} {B : S → State → Prop} {BX : String → SX → State → Prop} {AX : Nat → Prop} (hr : vx_Run5 p l e R s m args below meth c H locs cells slots mc ms (F0 m pc ls st0) rest (va_Qv post B A1 a) (vx_X px BX AX) free) (hS : va_S A0 H0 H locs) (hA : ∀ q, q < H.size → A1 q → A0 q) (hf : ∀ q, free q → A0 q) (hAX : ∀ q, q < H.size → AX q → A0 q)
    (kx : ∀ (E : String) (ce : Cell) (q9 : Addr) (u : SX) (t : State) (H1 : Heap) (locs1 : List Loc), t.heap = H1 → s.vm.Alike t.vm → px u → BX E u t → H.size ≤ H1.size → (∀ q : Nat, q < H.size → ¬ AX q → H1[q]? = H[q]?) → va_S A0 H0 H1 locs1 → H1[q9]? = some ce → ce.vm = .none → s.vm.findClass E = some ce.cls → vx_W p l e R s m args below meth c H1 locs1 (cells + mc) (slots + ms) Q (F0 m pc ls rest) q9)
    (kk : ∀ (u : S) (t : State) (H1 : Heap) (locs1 : List Loc), t.heap = H1 → s.vm.Alike t.vm → post u → B u t → H.size ≤ H1.size → (∀ q : Nat, q < H.size → ¬ A1 q → H1[q]? = H[q]?) → va_S A0 H0 H1 locs1 → W p l e R s m args below meth c H1 locs1 (cells + mc) (slots + ms) Q (F0 m (pc + 5) ls (rest))) : W p l e R s m args below meth c H locs cells slots Q (F0 m pc ls st0) := by
  intro T hT X
  rcases hr T hT X with ⟨v, st₀, t, T', L, h0, X', hL, e1, e2, ⟨⟨u, hv, hp, hb⟩, hF⟩, st⟩ | ⟨q, st₀, t, T', L, E, ce, h0, X', hL, e1, e2, ⟨u, hp, hb, hF⟩, hce, hcv, hcl, st⟩
  · cases hv
    obtain ⟨k1, k2, k3⟩ := vx_keep h0 e1 hS hA hf hL hF
    obtain ⟨t2, a1, b1⟩ := kk u t T'.heap (locs ++ L) e1.symm (by rw [← e2]; exact X'.warmed.alike) hp hb k1 k2 k3 T' rfl X'
    exact ⟨t2, st t2 a1, b1⟩
  · obtain ⟨k1, k2, k3⟩ := vx_keep h0 e1 hS hAX hf hL hF
    obtain ⟨t2, a1, b1⟩ := kx E ce q u t T'.heap (locs ++ L) e1.symm (by rw [← e2]; exact X'.warmed.alike) hp hb k1 k2 k3 (by rw [e1]; exact hce) hcv hcl T' rfl X'
    exact ⟨t2, st.trans a1, b1⟩
theorem vx_callFi {S SX : Type} {post : Int32 → S → Prop} {px : SX → Prop} {B : S → State → Prop} {BX : String → SX → State → Prop} {AX : Nat → Prop} (hr : vx_Run5 p l e R s m args below meth c H locs cells slots mc ms (F0 m pc ls st0) rest (va_Qi post B A1 a) (vx_X px BX AX) free) (hS : va_S A0 H0 H locs) (hA : ∀ q, q < H.size → A1 q → A0 q) (hf : ∀ q, free q → A0 q) (hAX : ∀ q, q < H.size → AX q → A0 q)
    (kx : ∀ (E : String) (ce : Cell) (q9 : Addr) (u : SX) (t : State) (H1 : Heap) (locs1 : List Loc), t.heap = H1 → s.vm.Alike t.vm → px u → BX E u t → H.size ≤ H1.size → (∀ q : Nat, q < H.size → ¬ AX q → H1[q]? = H[q]?) → va_S A0 H0 H1 locs1 → H1[q9]? = some ce → ce.vm = .none → s.vm.findClass E = some ce.cls → vx_W p l e R s m args below meth c H1 locs1 (cells + mc) (slots + ms) Q (F0 m pc ls rest) q9)
    (kk : ∀ (r : Int32) (u : S) (t : State) (H1 : Heap) (locs1 : List Loc), t.heap = H1 → s.vm.Alike t.vm → post r u → B u t → H.size ≤ H1.size → (∀ q : Nat, q < H.size → ¬ A1 q → H1[q]? = H[q]?) → va_S A0 H0 H1 locs1 → W p l e R s m args below meth c H1 locs1 (cells + mc) (slots + ms) Q (F0 m (pc + 5) ls (.int r :: rest))) : W p l e R s m args below meth c H locs cells slots Q (F0 m pc ls st0) := by
  intro T hT X
  rcases hr T hT X with ⟨v, st₀, t, T', L, h0, X', hL, e1, e2, ⟨⟨r, u, hv, hp, hb⟩, hF⟩, st⟩ | ⟨q, st₀, t, T', L, E, ce, h0, X', hL, e1, e2, ⟨u, hp, hb, hF⟩, hce, hcv, hcl, st⟩
  · cases hv
    obtain ⟨k1, k2, k3⟩ := vx_keep h0 e1 hS hA hf hL hF
    obtain ⟨t2, a1, b1⟩ := kk r u t T'.heap (locs ++ L) e1.symm (by rw [← e2]; exact X'.warmed.alike) hp hb k1 k2 k3 T' rfl X'
    exact ⟨t2, st t2 a1, b1⟩
  · obtain ⟨k1, k2, k3⟩ := vx_keep h0 e1 hS hAX hf hL hF
    obtain ⟨t2, a1, b1⟩ := kx E ce q u t T'.heap (locs ++ L) e1.symm (by rw [← e2]; exact X'.warmed.alike) hp hb k1 k2 k3 (by rw [e1]; exact hce) hcv hcl T' rfl X'
    exact ⟨t2, st.trans a1, b1⟩
theorem vx_callFl {S SX : Type} {post : Int64 → S → Prop} {px : SX → Prop} {B : S → State → Prop} {BX : String → SX → State → Prop} {AX : Nat → Prop} (hr : vx_Run5 p l e R s m args below meth c H locs cells slots mc ms (F0 m pc ls st0) rest (va_Ql post B A1 a) (vx_X px BX AX) free) (hS : va_S A0 H0 H locs) (hA : ∀ q, q < H.size → A1 q → A0 q) (hf : ∀ q, free q → A0 q) (hAX : ∀ q, q < H.size → AX q → A0 q)
    (kx : ∀ (E : String) (ce : Cell) (q9 : Addr) (u : SX) (t : State) (H1 : Heap) (locs1 : List Loc), t.heap = H1 → s.vm.Alike t.vm → px u → BX E u t → H.size ≤ H1.size → (∀ q : Nat, q < H.size → ¬ AX q → H1[q]? = H[q]?) → va_S A0 H0 H1 locs1 → H1[q9]? = some ce → ce.vm = .none → s.vm.findClass E = some ce.cls → vx_W p l e R s m args below meth c H1 locs1 (cells + mc) (slots + ms) Q (F0 m pc ls rest) q9)
    (kk : ∀ (r : Int64) (u : S) (t : State) (H1 : Heap) (locs1 : List Loc), t.heap = H1 → s.vm.Alike t.vm → post r u → B u t → H.size ≤ H1.size → (∀ q : Nat, q < H.size → ¬ A1 q → H1[q]? = H[q]?) → va_S A0 H0 H1 locs1 → W p l e R s m args below meth c H1 locs1 (cells + mc) (slots + ms) Q (F0 m (pc + 5) ls (.long r :: rest))) : W p l e R s m args below meth c H locs cells slots Q (F0 m pc ls st0) := by
  intro T hT X
  rcases hr T hT X with ⟨v, st₀, t, T', L, h0, X', hL, e1, e2, ⟨⟨r, u, hv, hp, hb⟩, hF⟩, st⟩ | ⟨q, st₀, t, T', L, E, ce, h0, X', hL, e1, e2, ⟨u, hp, hb, hF⟩, hce, hcv, hcl, st⟩
  · cases hv
    obtain ⟨k1, k2, k3⟩ := vx_keep h0 e1 hS hA hf hL hF
    obtain ⟨t2, a1, b1⟩ := kk r u t T'.heap (locs ++ L) e1.symm (by rw [← e2]; exact X'.warmed.alike) hp hb k1 k2 k3 T' rfl X'
    exact ⟨t2, st t2 a1, b1⟩
  · obtain ⟨k1, k2, k3⟩ := vx_keep h0 e1 hS hAX hf hL hF
    obtain ⟨t2, a1, b1⟩ := kx E ce q u t T'.heap (locs ++ L) e1.symm (by rw [← e2]; exact X'.warmed.alike) hp hb k1 k2 k3 (by rw [e1]; exact hce) hcv hcl T' rfl X'
    exact ⟨t2, st.trans a1, b1⟩
theorem vx_callFf {S SX : Type} {post : UInt32 → S → Prop} {px : SX → Prop} {B : S → State → Prop} {BX : String → SX → State → Prop} {AX : Nat → Prop} (hr : vx_Run5 p l e R s m args below meth c H locs cells slots mc ms (F0 m pc ls st0) rest (va_Qf post B A1 a) (vx_X px BX AX) free) (hS : va_S A0 H0 H locs) (hA : ∀ q, q < H.size → A1 q → A0 q) (hf : ∀ q, free q → A0 q) (hAX : ∀ q, q < H.size → AX q → A0 q)
    (kx : ∀ (E : String) (ce : Cell) (q9 : Addr) (u : SX) (t : State) (H1 : Heap) (locs1 : List Loc), t.heap = H1 → s.vm.Alike t.vm → px u → BX E u t → H.size ≤ H1.size → (∀ q : Nat, q < H.size → ¬ AX q → H1[q]? = H[q]?) → va_S A0 H0 H1 locs1 → H1[q9]? = some ce → ce.vm = .none → s.vm.findClass E = some ce.cls → vx_W p l e R s m args below meth c H1 locs1 (cells + mc) (slots + ms) Q (F0 m pc ls rest) q9)
    (kk : ∀ (r : UInt32) (u : S) (t : State) (H1 : Heap) (locs1 : List Loc), t.heap = H1 → s.vm.Alike t.vm → post r u → B u t → H.size ≤ H1.size → (∀ q : Nat, q < H.size → ¬ A1 q → H1[q]? = H[q]?) → va_S A0 H0 H1 locs1 → W p l e R s m args below meth c H1 locs1 (cells + mc) (slots + ms) Q (F0 m (pc + 5) ls (.float r :: rest))) : W p l e R s m args below meth c H locs cells slots Q (F0 m pc ls st0) := by
  intro T hT X
  rcases hr T hT X with ⟨v, st₀, t, T', L, h0, X', hL, e1, e2, ⟨⟨r, u, hv, hp, hb⟩, hF⟩, st⟩ | ⟨q, st₀, t, T', L, E, ce, h0, X', hL, e1, e2, ⟨u, hp, hb, hF⟩, hce, hcv, hcl, st⟩
  · cases hv
    obtain ⟨k1, k2, k3⟩ := vx_keep h0 e1 hS hA hf hL hF
    obtain ⟨t2, a1, b1⟩ := kk r u t T'.heap (locs ++ L) e1.symm (by rw [← e2]; exact X'.warmed.alike) hp hb k1 k2 k3 T' rfl X'
    exact ⟨t2, st t2 a1, b1⟩
  · obtain ⟨k1, k2, k3⟩ := vx_keep h0 e1 hS hAX hf hL hF
    obtain ⟨t2, a1, b1⟩ := kx E ce q u t T'.heap (locs ++ L) e1.symm (by rw [← e2]; exact X'.warmed.alike) hp hb k1 k2 k3 (by rw [e1]; exact hce) hcv hcl T' rfl X'
    exact ⟨t2, st.trans a1, b1⟩
theorem vx_callFd {S SX : Type} {post : UInt64 → S → Prop} {px : SX → Prop} {B : S → State → Prop} {BX : String → SX → State → Prop} {AX : Nat → Prop} (hr : vx_Run5 p l e R s m args below meth c H locs cells slots mc ms (F0 m pc ls st0) rest (va_Qd post B A1 a) (vx_X px BX AX) free) (hS : va_S A0 H0 H locs) (hA : ∀ q, q < H.size → A1 q → A0 q) (hf : ∀ q, free q → A0 q) (hAX : ∀ q, q < H.size → AX q → A0 q)
    (kx : ∀ (E : String) (ce : Cell) (q9 : Addr) (u : SX) (t : State) (H1 : Heap) (locs1 : List Loc), t.heap = H1 → s.vm.Alike t.vm → px u → BX E u t → H.size ≤ H1.size → (∀ q : Nat, q < H.size → ¬ AX q → H1[q]? = H[q]?) → va_S A0 H0 H1 locs1 → H1[q9]? = some ce → ce.vm = .none → s.vm.findClass E = some ce.cls → vx_W p l e R s m args below meth c H1 locs1 (cells + mc) (slots + ms) Q (F0 m pc ls rest) q9)
    (kk : ∀ (r : UInt64) (u : S) (t : State) (H1 : Heap) (locs1 : List Loc), t.heap = H1 → s.vm.Alike t.vm → post r u → B u t → H.size ≤ H1.size → (∀ q : Nat, q < H.size → ¬ A1 q → H1[q]? = H[q]?) → va_S A0 H0 H1 locs1 → W p l e R s m args below meth c H1 locs1 (cells + mc) (slots + ms) Q (F0 m (pc + 5) ls (.double r :: rest))) : W p l e R s m args below meth c H locs cells slots Q (F0 m pc ls st0) := by
  intro T hT X
  rcases hr T hT X with ⟨v, st₀, t, T', L, h0, X', hL, e1, e2, ⟨⟨r, u, hv, hp, hb⟩, hF⟩, st⟩ | ⟨q, st₀, t, T', L, E, ce, h0, X', hL, e1, e2, ⟨u, hp, hb, hF⟩, hce, hcv, hcl, st⟩
  · cases hv
    obtain ⟨k1, k2, k3⟩ := vx_keep h0 e1 hS hA hf hL hF
    obtain ⟨t2, a1, b1⟩ := kk r u t T'.heap (locs ++ L) e1.symm (by rw [← e2]; exact X'.warmed.alike) hp hb k1 k2 k3 T' rfl X'
    exact ⟨t2, st t2 a1, b1⟩
  · obtain ⟨k1, k2, k3⟩ := vx_keep h0 e1 hS hAX hf hL hF
    obtain ⟨t2, a1, b1⟩ := kx E ce q u t T'.heap (locs ++ L) e1.symm (by rw [← e2]; exact X'.warmed.alike) hp hb k1 k2 k3 (by rw [e1]; exact hce) hcv hcl T' rfl X'
    exact ⟨t2, st.trans a1, b1⟩
end
/-! ===== END ===== -/
/-! ===== BEGIN by an interface, a method with a table of its own that may throw (follows va_callIFW, va_runFW) ===== -/
section
variable {p : Program} {l : Launch} {e : Env} {R : Room} {s : State} {m : MethodId} {args : Array Value} {below : List Frame} {meth : Method} {c : Code} {H : Heap} {locs : List Loc} {cells slots : Nat}
theorem vx_callIFW {T : State} (X : Stand p l e R s m args below meth c T locs cells slots) (hexec : p.tables.exec = Jvm.exec) {own C : String} {index count : Nat} {x y : MethodName} {bytes : ByteArray} {maxL : Nat} {ret : Option FieldType} {hh : List (Nat × Nat × Nat × Nat)}
    (hown : s.vm.findClass own = some m.cls) (hlink : (Cond.methodLink own index x).before args s = true) (hdecl : (Cond.declares x).before args s = true) (hface : (Cond.interfaceMethod x.cls x.cls x.name x.desc).before args s = true)
    (hsel : (Cond.selects C x y).before args s = true) (hinst : (Cond.instanceMethod y).before args s = true) (hpub : (Cond.publicMethod y).before args s = true) (hunh : (Cond.unhidden C x.name x.desc).before args s = true)
    (hcast : (Cond.castable C x.cls).before args s = true) (hcode : (Cond.codeWith y bytes maxL ret hh).before args s = true) (hx : x.cls ≠ "java/lang/invoke/MethodHandle" ∧ x.cls ≠ "java/lang/invoke/VarHandle")
    {W : Nat} {Pre : Pt → Array Value → Prop} {Post : Pt → Array Value → Option Value → Pt → Prop} {PostX : Pt → Array Value → Addr → Pt → Prop} (hK : vx_Back l R p e below s args y 5 W Pre Post PostX)
    {b : Addr} {cellB : Cell} {kB : Class} (hcell : T.heap[b]? = some cellB) (hobj : cellB.vm.isStatics = false) (hcls : s.vm.findClass C = some cellB.cls) (hkB : s.vm.classes[cellB.cls]? = some kB)
    {g : JFrame} (hg : g.method = m) (hsize : g.locals.size = c.maxLocals) {argsL rest : List Value} (hlen : ∀ sig, parseMethodDescriptor x.desc = some sig → argsL.length = sig.parameters.length)
    (hstack : g.stack = argsL.reverse ++ .ref b :: rest) (hW : 2 * g.monitorRoom + (rest.map fun v => v.category).sum ≤ W) (hdg : decode c.code g.pc = .ok (.invokeinterface index count, 5))
    (hpre : ∀ vm₁, s.WarmedH vm₁ → Pre ⟨T.setVm vm₁, locs, cells, slots⟩ (Value.ref b :: argsL).toArray) :
    (∃ (v : Option Value) (vm₁ : Vm) (B : Pt), s.WarmedH vm₁ ∧ Stand p l e R s m args below meth c B.U B.locs B.cells B.slots ∧ Post ⟨T.setVm vm₁, locs, cells, slots⟩ (Value.ref b :: argsL).toArray v B ∧
      ∀ target, Steps p.tables e below (B.U.setTop { g with pc := g.pc + 5, stack := v.toList ++ rest }) target → Steps p.tables e below (T.setTop g) target) ∨
    (∃ (q : Addr) (vm₁ : Vm) (B : Pt), s.WarmedH vm₁ ∧ Stand p l e R s m args below meth c B.U B.locs B.cells B.slots ∧ PostX ⟨T.setVm vm₁, locs, cells, slots⟩ (Value.ref b :: argsL).toArray q B ∧
      Steps p.tables e below (T.setTop g) ((B.U.setTop { g with stack := rest }).pushFrame (.throwing q))) := by
  obtain ⟨r0, r, hn, hrm, hstR, hsigR⟩ := Cond.declares_spec hdecl
  obtain ⟨cL, kL, r1, hcL, hkL, hiL, hfoundL, hn1⟩ := Cond.interfaceMethod_spec hface
  cases hn.symm.trans hn1
  have hr0cls : r0.cls = cL := Option.some.inj ((findClass_of_methodNamed hn).symm.trans hcL)
  obtain ⟨hnameR, hdescR⟩ := name_of_methodNamed hn hrm
  obtain ⟨mk, methM, hnamed, hmethM, -, habM⟩ := Cond.instanceMethod_spec hinst
  obtain ⟨c2, r2, m2, q1, q2, q3, q4, -⟩ := Cond.selects_spec hsel
  cases hcls.symm.trans q1
  cases hfoundL.symm.trans q2
  cases hnamed.symm.trans q3
  have hselP : selectMethod e.platform s.vm cellB.cls r0 = .method mk := by rw [Launch.admits_selectMethod X.admits]; exact q4
  have hpubM : hasFlag methM.accessFlags Acc.public_ = true := Cond.publicMethod_spec hnamed hmethM hpub
  have hway : ((cellB.cls :: s.vm.superclasses cellB.cls).any fun k => (declaredIn s.vm r.name r.desc k).any fun (_, z) => z.isPrivate || z.isStatic) = false := by
    rw [hnameR, hdescR]; exact Cond.unhidden_spec hcls hunh
  obtain ⟨c3, t3, w1, w2, w3⟩ := Cond.castable_spec hcast
  cases hcls.symm.trans w1
  cases hcL.symm.trans w2
  obtain ⟨vm₁, X₁, hstep₁⟩ := X.invokeinterface hexec hown hlink hn hrm hstR (by rw [hr0cls]; exact hkL) hiL hx (a := b) (cell := cellB) (kcell := kB) hcell
    (fun z h => by rw [h] at hobj; cases hobj) hkB (by rw [hr0cls]; exact w3) hselP hmethM hway hpubM habM (g := g) hg (argsL := argsL) (rest := rest) (hlen _ hsigR) hstack hdg
  rcases hK m meth c ⟨T.setVm vm₁, locs, cells, slots⟩ { g with stack := rest } (.invokeinterface index count) mk (Value.ref b :: argsL).toArray X₁ hg hsize hdg hW (X₁.named hnamed) (hpre vm₁ X₁.warmed) with ⟨v, B, X', hpost, hsteps⟩ | ⟨q, B, X', hpost, hsteps⟩
  · exact Or.inl ⟨v, vm₁, B, X₁.warmed, X', hpost, fun target h => hstep₁ _ fun acts => by rw [doInvoke_state]; exact hsteps.trans h⟩
  · exact Or.inr ⟨q, vm₁, B, X₁.warmed, X', hpost, hstep₁ _ fun acts => by rw [doInvoke_state]; exact hsteps⟩
theorem vx_runFW {x y : MethodName} {bytes cc : ByteArray} {maxL nL mc ms n index count : Nat} {ret : Option FieldType} {hh : List (Nat × Nat × Nat × Nat)} {ws : List Cond} {rm : Room} {Pc : Array Value → State → Prop} {Qc : Array Value → State → Outcome → State → Prop} {XC : String → State → State → Prop} {free : Addr → Prop} {Ts : List Cond} {own C : String} {cC : ClassId} {b : Addr} {As rest : List Value} {g : JFrame}
    (hat : ClassAt s C cC) (S : CallFix p m c cc nL s args Ts own) (hM : vx_Met l y ws rm Pc Qc XC mc ms free) (cw : va_CIW R s args own C index x y bytes maxL ret hh ws rm mc ms n) (hp : PreV s H C b Pc As)
    (hg : g.method = m) (hn : As.length = n) (hsize : g.locals.size = nL) (hstack : g.stack = As.reverse ++ .ref b :: rest) (hW : 2 * g.monitorRoom + (rest.map fun v => v.category).sum ≤ 8) (hdg : decode cc g.pc = .ok (.invokeinterface index count, 5)) (hf : cells + mc ≤ R.cells ∧ slots + ms ≤ R.slots) :
    vx_Run5 p l e R s m args below meth c H locs cells slots mc ms g rest (Qc (Value.ref b :: As).toArray) XC free := by
  obtain ⟨hrc, hrs, hfr, hlo, hws, hcw⟩ := cw.back
  have hini := cw.init
  have hK : vx_Back l R p e below s args y 5 8 (PreOf R mc ms Pc) (PostOf Qc mc ms free) (vx_Post XC mc ms free) := vx_backW (hh := hh) (bytes := bytes) (maxL := maxL) (ret := ret) hM hp.1 hrc hrs hfr hlo hws hcw (fun a' U hW => word_at hW (Or.inl (by first | rfl | simp [Cond.onTables, Cond.keeps, Cond.steady])) hini)
  obtain ⟨hx, hb, hml, ho, -⟩ := S
  obtain ⟨-, ⟨cellB, hcB, hoB, hclB⟩, hPc⟩ := hp
  obtain ⟨hfc, kB, hkB, -⟩ := hat
  cases hfc.symm.trans hclB
  intro T hT X
  rcases vx_callIFW X hx (C := C) (hh := hh) (bytes := bytes) (maxL := maxL) (ret := ret) ho cw.link cw.decl cw.face cw.sel cw.inst cw.pub cw.unh cw.cast cw.code cw.notMH hK (by rw [hT]; exact hcB) hoB hclB hkB hg (hsize.trans hml.symm) (argsL := As) (rest := rest) (fun sig h => hn.trans (cw.len sig h)) hstack hW (by rw [hb]; exact hdg)
    (fun vm₁ hW₁ => ⟨hf.1, hf.2, hPc (T.setVm vm₁) hT hW₁⟩) with ⟨v, vm₁, ⟨U', l2, c2, s2⟩, hW₁, X', ⟨g', mk, t, L, e1, e2, hq, h1, hL, h2, h3⟩, st⟩ | ⟨q, vm₁, ⟨U', l2, c2, s2⟩, hW₁, X', ⟨g', mk, t, L, E, ce, e1, e2, hq, hce, hcv, hcl, h1, hL, h2, h3⟩, st⟩
  · dsimp only [Pt.U, Pt.locs, Pt.cells, Pt.slots] at X' e1 e2 h1 h2 h3 st
    subst h1; subst h2; subst h3
    exact Or.inl ⟨v, (T.setVm vm₁).calling g' mk (Value.ref b :: As).toArray, t, U', L, hT, X', hL, e1, e2, hq, st⟩
  · dsimp only [Pt.U, Pt.locs, Pt.cells, Pt.slots] at X' e1 e2 h1 h2 h3 st hcl
    subst h1; subst h2; subst h3
    exact Or.inr ⟨q, (T.setVm vm₁).calling g' mk (Value.ref b :: As).toArray, t, U', L, E, ce, hT, X', hL, e1, e2, hq, hce, hcv, vx_cls hW₁ hcl, st⟩
end
/-! ===== END ===== -/
/-! ===== BEGIN .. of methods that hand back an object of the pool ===== -/
section
variable {p : Program} {l : Launch} {e : Env} {R : Room} {s : State} {m : MethodId} {args : Array Value} {below : List Frame} {meth : Method} {c : Code} {H : Heap} {locs : List Loc} {cells slots : Nat} {Q : State → Prop}
variable {mc ms : Nat} {free : Addr → Prop} {A0 A1 : Nat → Prop} {H0 : Heap} {a : Array Value} {pc : Nat} {ls : Array Slot} {st0 rest : List Value}
theorem vx_callq {S SX : Type} {post : Option Nat → S → Prop} {px : SX → Prop} {B : S → State → Prop} {BX : String → SX → State → Prop} {AX : Nat → Prop} (hr : vx_Run p l e R s m args below meth c H locs cells slots mc ms (F0 m pc ls st0) rest (va_Qq post B A1 a) (vx_X px BX AX) free) (hS : va_S A0 H0 H locs) (hA : ∀ q, q < H.size → A1 q → A0 q) (hf : ∀ q, free q → A0 q) (hAX : ∀ q, q < H.size → AX q → A0 q)
    (kx : ∀ (E : String) (ce : Cell) (q9 : Addr) (u : SX) (t : State) (H1 : Heap) (locs1 : List Loc), t.heap = H1 → s.vm.Alike t.vm → px u → BX E u t → H.size ≤ H1.size → (∀ q : Nat, q < H.size → ¬ AX q → H1[q]? = H[q]?) → va_S A0 H0 H1 locs1 → H1[q9]? = some ce → ce.vm = .none → s.vm.findClass E = some ce.cls → vx_W p l e R s m args below meth c H1 locs1 (cells + mc) (slots + ms) Q (F0 m pc ls rest) q9)
    (kk : ∀ (r : Option Nat) (u : S) (t : State) (H1 : Heap) (locs1 : List Loc), t.heap = H1 → s.vm.Alike t.vm → post r u → B u t → H.size ≤ H1.size → (∀ q : Nat, q < H.size → ¬ A1 q → H1[q]? = H[q]?) → va_S A0 H0 H1 locs1 → W p l e R s m args below meth c H1 locs1 (cells + mc) (slots + ms) Q (F0 m (pc + 3) ls (va_rf r :: rest))) : W p l e R s m args below meth c H locs cells slots Q (F0 m pc ls st0) := by
  intro T hT X
  rcases hr T hT X with ⟨v, st₀, t, T', L, h0, X', hL, e1, e2, ⟨⟨r, u, hv, hp, hb⟩, hF⟩, st⟩ | ⟨q, st₀, t, T', L, E, ce, h0, X', hL, e1, e2, ⟨u, hp, hb, hF⟩, hce, hcv, hcl, st⟩
  · cases hv
    obtain ⟨k1, k2, k3⟩ := vx_keep h0 e1 hS hA hf hL hF
    obtain ⟨t2, a1, b1⟩ := kk r u t T'.heap (locs ++ L) e1.symm (by rw [← e2]; exact X'.warmed.alike) hp hb k1 k2 k3 T' rfl X'
    exact ⟨t2, st t2 a1, b1⟩
  · obtain ⟨k1, k2, k3⟩ := vx_keep h0 e1 hS hAX hf hL hF
    obtain ⟨t2, a1, b1⟩ := kx E ce q u t T'.heap (locs ++ L) e1.symm (by rw [← e2]; exact X'.warmed.alike) hp hb k1 k2 k3 (by rw [e1]; exact hce) hcv hcl T' rfl X'
    exact ⟨t2, st.trans a1, b1⟩
end
/-! ===== END ===== -/
/-! ===== BEGIN .. a constant ===== -/
section
variable {p : Program} {l : Launch} {e : Env} {R : Room} {s : State} {m : MethodId} {args : Array Value} {below : List Frame} {meth : Method} {c : Code} {H : Heap} {locs : List Loc} {cells slots : Nat} {Q : State → Prop}
variable {mc ms : Nat} {free : Addr → Prop} {A0 A1 : Nat → Prop} {H0 : Heap} {a : Array Value} {pc : Nat} {ls : Array Slot} {st0 rest : List Value}
theorem vx_calle {ad : Nat → Nat} {S SX : Type} {post : Option Nat → S → Prop} {px : SX → Prop} {B : S → State → Prop} {BX : String → SX → State → Prop} {AX : Nat → Prop} (hr : vx_Run p l e R s m args below meth c H locs cells slots mc ms (F0 m pc ls st0) rest (va_Qe ad post B A1 a) (vx_X px BX AX) free) (hS : va_S A0 H0 H locs) (hA : ∀ q, q < H.size → A1 q → A0 q) (hf : ∀ q, free q → A0 q) (hAX : ∀ q, q < H.size → AX q → A0 q)
    (kx : ∀ (E : String) (ce : Cell) (q9 : Addr) (u : SX) (t : State) (H1 : Heap) (locs1 : List Loc), t.heap = H1 → s.vm.Alike t.vm → px u → BX E u t → H.size ≤ H1.size → (∀ q : Nat, q < H.size → ¬ AX q → H1[q]? = H[q]?) → va_S A0 H0 H1 locs1 → H1[q9]? = some ce → ce.vm = .none → s.vm.findClass E = some ce.cls → vx_W p l e R s m args below meth c H1 locs1 (cells + mc) (slots + ms) Q (F0 m pc ls rest) q9)
    (kk : ∀ (r : Option Nat) (u : S) (t : State) (H1 : Heap) (locs1 : List Loc), t.heap = H1 → s.vm.Alike t.vm → post r u → B u t → H.size ≤ H1.size → (∀ q : Nat, q < H.size → ¬ A1 q → H1[q]? = H[q]?) → va_S A0 H0 H1 locs1 → W p l e R s m args below meth c H1 locs1 (cells + mc) (slots + ms) Q (F0 m (pc + 3) ls (va_re ad r :: rest))) : W p l e R s m args below meth c H locs cells slots Q (F0 m pc ls st0) := by
  intro T hT X
  rcases hr T hT X with ⟨v, st₀, t, T', L, h0, X', hL, e1, e2, ⟨⟨r, u, hv, hp, hb⟩, hF⟩, st⟩ | ⟨q, st₀, t, T', L, E, ce, h0, X', hL, e1, e2, ⟨u, hp, hb, hF⟩, hce, hcv, hcl, st⟩
  · cases hv
    obtain ⟨k1, k2, k3⟩ := vx_keep h0 e1 hS hA hf hL hF
    obtain ⟨t2, a1, b1⟩ := kk r u t T'.heap (locs ++ L) e1.symm (by rw [← e2]; exact X'.warmed.alike) hp hb k1 k2 k3 T' rfl X'
    exact ⟨t2, st t2 a1, b1⟩
  · obtain ⟨k1, k2, k3⟩ := vx_keep h0 e1 hS hAX hf hL hF
    obtain ⟨t2, a1, b1⟩ := kx E ce q u t T'.heap (locs ++ L) e1.symm (by rw [← e2]; exact X'.warmed.alike) hp hb k1 k2 k3 (by rw [e1]; exact hce) hcv hcl T' rfl X'
    exact ⟨t2, st.trans a1, b1⟩
end
/-! ===== END ===== -/
/-! ===== BEGIN .. by an interface, an object ===== -/
section
variable {p : Program} {l : Launch} {e : Env} {R : Room} {s : State} {m : MethodId} {args : Array Value} {below : List Frame} {meth : Method} {c : Code} {H : Heap} {locs : List Loc} {cells slots : Nat} {Q : State → Prop}
variable {mc ms : Nat} {free : Addr → Prop} {A0 A1 : Nat → Prop} {H0 : Heap} {a : Array Value} {pc : Nat} {ls : Array Slot} {st0 rest : List Value}
theorem vx_callFq {S SX : Type} {post : Option Nat → S → Prop} {px : SX → Prop} {B : S → State → Prop} {BX : String → SX → State → Prop} {AX : Nat → Prop} (hr : vx_Run5 p l e R s m args below meth c H locs cells slots mc ms (F0 m pc ls st0) rest (va_Qq post B A1 a) (vx_X px BX AX) free) (hS : va_S A0 H0 H locs) (hA : ∀ q, q < H.size → A1 q → A0 q) (hf : ∀ q, free q → A0 q) (hAX : ∀ q, q < H.size → AX q → A0 q)
    (kx : ∀ (E : String) (ce : Cell) (q9 : Addr) (u : SX) (t : State) (H1 : Heap) (locs1 : List Loc), t.heap = H1 → s.vm.Alike t.vm → px u → BX E u t → H.size ≤ H1.size → (∀ q : Nat, q < H.size → ¬ AX q → H1[q]? = H[q]?) → va_S A0 H0 H1 locs1 → H1[q9]? = some ce → ce.vm = .none → s.vm.findClass E = some ce.cls → vx_W p l e R s m args below meth c H1 locs1 (cells + mc) (slots + ms) Q (F0 m pc ls rest) q9)
    (kk : ∀ (r : Option Nat) (u : S) (t : State) (H1 : Heap) (locs1 : List Loc), t.heap = H1 → s.vm.Alike t.vm → post r u → B u t → H.size ≤ H1.size → (∀ q : Nat, q < H.size → ¬ A1 q → H1[q]? = H[q]?) → va_S A0 H0 H1 locs1 → W p l e R s m args below meth c H1 locs1 (cells + mc) (slots + ms) Q (F0 m (pc + 5) ls (va_rf r :: rest))) : W p l e R s m args below meth c H locs cells slots Q (F0 m pc ls st0) := by
  intro T hT X
  rcases hr T hT X with ⟨v, st₀, t, T', L, h0, X', hL, e1, e2, ⟨⟨r, u, hv, hp, hb⟩, hF⟩, st⟩ | ⟨q, st₀, t, T', L, E, ce, h0, X', hL, e1, e2, ⟨u, hp, hb, hF⟩, hce, hcv, hcl, st⟩
  · cases hv
    obtain ⟨k1, k2, k3⟩ := vx_keep h0 e1 hS hA hf hL hF
    obtain ⟨t2, a1, b1⟩ := kk r u t T'.heap (locs ++ L) e1.symm (by rw [← e2]; exact X'.warmed.alike) hp hb k1 k2 k3 T' rfl X'
    exact ⟨t2, st t2 a1, b1⟩
  · obtain ⟨k1, k2, k3⟩ := vx_keep h0 e1 hS hAX hf hL hF
    obtain ⟨t2, a1, b1⟩ := kx E ce q u t T'.heap (locs ++ L) e1.symm (by rw [← e2]; exact X'.warmed.alike) hp hb k1 k2 k3 (by rw [e1]; exact hce) hcv hcl T' rfl X'
    exact ⟨t2, st.trans a1, b1⟩
end
/-! ===== END ===== -/
/-! ===== BEGIN .. by an interface, a constant ===== -/
section
variable {p : Program} {l : Launch} {e : Env} {R : Room} {s : State} {m : MethodId} {args : Array Value} {below : List Frame} {meth : Method} {c : Code} {H : Heap} {locs : List Loc} {cells slots : Nat} {Q : State → Prop}
variable {mc ms : Nat} {free : Addr → Prop} {A0 A1 : Nat → Prop} {H0 : Heap} {a : Array Value} {pc : Nat} {ls : Array Slot} {st0 rest : List Value}
theorem vx_callFe {ad : Nat → Nat} {S SX : Type} {post : Option Nat → S → Prop} {px : SX → Prop} {B : S → State → Prop} {BX : String → SX → State → Prop} {AX : Nat → Prop} (hr : vx_Run5 p l e R s m args below meth c H locs cells slots mc ms (F0 m pc ls st0) rest (va_Qe ad post B A1 a) (vx_X px BX AX) free) (hS : va_S A0 H0 H locs) (hA : ∀ q, q < H.size → A1 q → A0 q) (hf : ∀ q, free q → A0 q) (hAX : ∀ q, q < H.size → AX q → A0 q)
    (kx : ∀ (E : String) (ce : Cell) (q9 : Addr) (u : SX) (t : State) (H1 : Heap) (locs1 : List Loc), t.heap = H1 → s.vm.Alike t.vm → px u → BX E u t → H.size ≤ H1.size → (∀ q : Nat, q < H.size → ¬ AX q → H1[q]? = H[q]?) → va_S A0 H0 H1 locs1 → H1[q9]? = some ce → ce.vm = .none → s.vm.findClass E = some ce.cls → vx_W p l e R s m args below meth c H1 locs1 (cells + mc) (slots + ms) Q (F0 m pc ls rest) q9)
    (kk : ∀ (r : Option Nat) (u : S) (t : State) (H1 : Heap) (locs1 : List Loc), t.heap = H1 → s.vm.Alike t.vm → post r u → B u t → H.size ≤ H1.size → (∀ q : Nat, q < H.size → ¬ A1 q → H1[q]? = H[q]?) → va_S A0 H0 H1 locs1 → W p l e R s m args below meth c H1 locs1 (cells + mc) (slots + ms) Q (F0 m (pc + 5) ls (va_re ad r :: rest))) : W p l e R s m args below meth c H locs cells slots Q (F0 m pc ls st0) := by
  intro T hT X
  rcases hr T hT X with ⟨v, st₀, t, T', L, h0, X', hL, e1, e2, ⟨⟨r, u, hv, hp, hb⟩, hF⟩, st⟩ | ⟨q, st₀, t, T', L, E, ce, h0, X', hL, e1, e2, ⟨u, hp, hb, hF⟩, hce, hcv, hcl, st⟩
  · cases hv
    obtain ⟨k1, k2, k3⟩ := vx_keep h0 e1 hS hA hf hL hF
    obtain ⟨t2, a1, b1⟩ := kk r u t T'.heap (locs ++ L) e1.symm (by rw [← e2]; exact X'.warmed.alike) hp hb k1 k2 k3 T' rfl X'
    exact ⟨t2, st t2 a1, b1⟩
  · obtain ⟨k1, k2, k3⟩ := vx_keep h0 e1 hS hAX hf hL hF
    obtain ⟨t2, a1, b1⟩ := kx E ce q u t T'.heap (locs ++ L) e1.symm (by rw [← e2]; exact X'.warmed.alike) hp hb k1 k2 k3 (by rw [e1]; exact hce) hcv hcl T' rfl X'
    exact ⟨t2, st.trans a1, b1⟩
end
/-! ===== END ===== -/
/-! ===== BEGIN what the machine throws by itself: null at a field, at athrow ===== -/
section VXM2
variable {p : Program} {l : Launch} {e : Env} {R : Room} {s : State} {m : MethodId} {args : Array Value} {below : List Frame} {meth : Method} {c : Code} {H : Heap} {locs : List Loc} {cells slots : Nat}
variable {Q : State → Prop} {cc : ByteArray} {pc : Nat} {ls : Array Slot} {rest : List Value}
theorem vx_getfN {D cl tys} {own ref C : String} {T : u_T} {N ci index : Nat} {Ts : List Cond} (hexec : p.tables.exec = Jvm.exec) (hb : c.code = cc) (hts : ∀ w ∈ Ts, w.before args s = true) (hin : ∀ w ∈ u_ws C T N, w ∈ Ts) (hown : s.vm.findClass own = some m.cls) (hK : va_K D cl tys s) (hc : cl[ci]? = some (C, T, N)) (k : Nat) (hk : k < N) (hlink : (Cond.fieldLink own index ref (T k).2.1 (T k).2.2.1).before args s = true) (hsame : ∀ x, s.fieldFound? (T k).1 (T k).2.1 (T k).2.2.1 = some x → s.fieldFound? ref (T k).2.1 (T k).2.2.1 = some x) (hdg : decode cc pc = .ok (.getfield index, 3)) (kk : vx_NoteN p l e R s m args below meth c H locs cells slots Q (F0 m pc ls rest)) : W p l e R s m args below meth c H locs cells slots Q (F0 m pc ls (.null :: rest)) := by
  obtain ⟨hS, hfc, kC, hkC, -⟩ := hK.1 ci _ hc
  obtain ⟨cf, kf, fi, f, hi, -⟩ := hS k hk
  intro U hU X
  obtain ⟨vm', X1, st1⟩ := X.getfieldNull hexec hown hlink (hsame _ hi) (u_facts hfc hkC (u_lays hts hin hk) hi).1 (g := F0 m pc ls (.null :: rest)) rfl (rest := rest) rfl (by rw [hb]; exact hdg)
  obtain ⟨t, st, q⟩ := kk (U.setVm vm') hU X1
  exact ⟨t, st1 t st, q⟩
theorem vx_getfNN {D cl tys} {own ref C host : String} {T : u_T} {N ci index : Nat} {Ts : List Cond} (hexec : p.tables.exec = Jvm.exec) (hb : c.code = cc) (hts : ∀ w ∈ Ts, w.before args s = true) (hin : ∀ w ∈ u_ws C T N, w ∈ Ts) (hown : s.vm.findClass own = some m.cls) (hK : va_K D cl tys s) (hc : cl[ci]? = some (C, T, N)) (k : Nat) (hk : k < N) (hlink : (Cond.fieldLinkNest own index ref (T k).2.1 (T k).2.2.1 host).before args s = true) (hsame : ∀ x, s.fieldFound? (T k).1 (T k).2.1 (T k).2.2.1 = some x → s.fieldFound? ref (T k).2.1 (T k).2.2.1 = some x) (hdg : decode cc pc = .ok (.getfield index, 3)) (kk : vx_NoteN p l e R s m args below meth c H locs cells slots Q (F0 m pc ls rest)) : W p l e R s m args below meth c H locs cells slots Q (F0 m pc ls (.null :: rest)) := by
  obtain ⟨hS, hfc, kC, hkC, -⟩ := hK.1 ci _ hc
  obtain ⟨cf, kf, fi, f, hi, -⟩ := hS k hk
  intro U hU X
  obtain ⟨vm', X1, st1⟩ := X.getfieldNullNest hexec hown hlink (hsame _ hi) (u_facts hfc hkC (u_lays hts hin hk) hi).1 (g := F0 m pc ls (.null :: rest)) rfl (rest := rest) rfl (by rw [hb]; exact hdg)
  obtain ⟨t, st, q⟩ := kk (U.setVm vm') hU X1
  exact ⟨t, st1 t st, q⟩
theorem vx_putfN {D cl tys} {own ref C : String} {T : u_T} {N ci index : Nat} {Ts : List Cond} (hexec : p.tables.exec = Jvm.exec) (hb : c.code = cc) (hts : ∀ w ∈ Ts, w.before args s = true) (hin : ∀ w ∈ u_ws C T N, w ∈ Ts) (hown : s.vm.findClass own = some m.cls) (hK : va_K D cl tys s) (hc : cl[ci]? = some (C, T, N)) (k : Nat) (hk : k < N) (hlink : (Cond.fieldLink own index ref (T k).2.1 (T k).2.2.1).before args s = true) (hsame : ∀ x, s.fieldFound? (T k).1 (T k).2.1 (T k).2.2.1 = some x → s.fieldFound? ref (T k).2.1 (T k).2.2.1 = some x) (hfin : (T k).2.2.2 = false) {v : Value} (hdg : decode cc pc = .ok (.putfield index, 3)) (kk : vx_NoteN p l e R s m args below meth c H locs cells slots Q (F0 m pc ls rest)) : W p l e R s m args below meth c H locs cells slots Q (F0 m pc ls (v :: .null :: rest)) := by
  obtain ⟨hS, hfc, kC, hkC, -⟩ := hK.1 ci _ hc
  obtain ⟨cf, kf, fi, f, hi, -⟩ := hS k hk
  have hlay := hts _ (hin _ (u_in_lay hk))
  unfold u_lay at hlay
  rw [if_neg (by rw [hfin]; decide)] at hlay
  obtain ⟨c9, k9, cf9, kf9, fi9, f9, -, -, hi9, hst9, hnf9, -⟩ := Cond.lays_spec hlay
  cases hi.symm.trans hi9
  intro U hU X
  obtain ⟨vm', X1, st1⟩ := X.putfieldNull hexec hown hlink (hsame _ hi) hst9 hnf9 (g := F0 m pc ls (v :: .null :: rest)) rfl (v := v) (rest := rest) rfl (by rw [hb]; exact hdg)
  obtain ⟨t, st, q⟩ := kk (U.setVm vm') hU X1
  exact ⟨t, st1 t st, q⟩
theorem vx_putfNN {D cl tys} {own ref C host : String} {T : u_T} {N ci index : Nat} {Ts : List Cond} (hexec : p.tables.exec = Jvm.exec) (hb : c.code = cc) (hts : ∀ w ∈ Ts, w.before args s = true) (hin : ∀ w ∈ u_ws C T N, w ∈ Ts) (hown : s.vm.findClass own = some m.cls) (hK : va_K D cl tys s) (hc : cl[ci]? = some (C, T, N)) (k : Nat) (hk : k < N) (hlink : (Cond.fieldLinkNest own index ref (T k).2.1 (T k).2.2.1 host).before args s = true) (hsame : ∀ x, s.fieldFound? (T k).1 (T k).2.1 (T k).2.2.1 = some x → s.fieldFound? ref (T k).2.1 (T k).2.2.1 = some x) (hfin : (T k).2.2.2 = false) {v : Value} (hdg : decode cc pc = .ok (.putfield index, 3)) (kk : vx_NoteN p l e R s m args below meth c H locs cells slots Q (F0 m pc ls rest)) : W p l e R s m args below meth c H locs cells slots Q (F0 m pc ls (v :: .null :: rest)) := by
  obtain ⟨hS, hfc, kC, hkC, -⟩ := hK.1 ci _ hc
  obtain ⟨cf, kf, fi, f, hi, -⟩ := hS k hk
  have hlay := hts _ (hin _ (u_in_lay hk))
  unfold u_lay at hlay
  rw [if_neg (by rw [hfin]; decide)] at hlay
  obtain ⟨c9, k9, cf9, kf9, fi9, f9, -, -, hi9, hst9, hnf9, -⟩ := Cond.lays_spec hlay
  cases hi.symm.trans hi9
  intro U hU X
  obtain ⟨vm', X1, st1⟩ := X.putfieldNullNest hexec hown hlink (hsame _ hi) hst9 hnf9 (g := F0 m pc ls (v :: .null :: rest)) rfl (v := v) (rest := rest) rfl (by rw [hb]; exact hdg)
  obtain ⟨t, st, q⟩ := kk (U.setVm vm') hU X1
  exact ⟨t, st1 t st, q⟩
theorem vx_athrowN (hexec : p.tables.exec = Jvm.exec) (hb : c.code = cc) (hdg : decode cc pc = .ok (.athrow, 1)) (k : vx_NoteN p l e R s m args below meth c H locs cells slots Q (F0 m pc ls rest)) : W p l e R s m args below meth c H locs cells slots Q (F0 m pc ls (.null :: rest)) := by
  intro T hT X
  obtain ⟨t, st, q⟩ := k T hT X
  exact ⟨t, X.athrowNull hexec (g := F0 m pc ls (.null :: rest)) rfl (rest := rest) rfl (by rw [hb]; exact hdg) t st, q⟩
end VXM2
/-! ===== END ===== -/
theorem vr_outer (c : ClassId) (N h0 : Nat) : ∀ i : Nat, Jvm.Free.Multi.outerC c N h0 i = arrV c N (fun j => va_rf (if j < i then some (h0 + 1 + j) else none))
  | 0 => by
    show ({ cls := c, slots := Array.replicate N .null, vm := .none } : Cell) = _
    rw [arrV_new]
    refine congrArg (arrV c N) (funext fun j => ?_)
    simp [va_rf]
  | i + 1 => by
    show (Jvm.Free.Multi.outerC c N h0 i).setSlot i (.ref (h0 + 1 + i)) = _
    rw [vr_outer c N h0 i, arrV_store]
    refine congrArg (arrV c N) (funext fun j => ?_)
    by_cases e : j = i
    · subst e
      simp [updV, va_rf]
    · by_cases h : j < i
      · simp [updV, e, h, Nat.lt_succ_of_lt h]
      · simp [updV, e, h, show ¬ j < i + 1 by omega]
end
section
/-! ===== BEGIN printed: names, fields, word lists, decode rows ===== -/
def RX0 : String := "Trellistag$AllPaths"
def TX0 : u_T := fun k => match k with
  | 0 => ("Trellistag$AllPaths", "lattice", "LTrellistag$Lattice;", true)
  | 1 => ("Trellistag$AllPaths", "tags", "[I", true)
  | 2 => ("Trellistag$AllPaths", "weights", "[J", true)
  | _ => ("Trellistag$AllPaths", "paths", "[I", true)
def tyX0 : Nat → FieldType := fun k => match k with
  | 0 => .object "Trellistag$Lattice"
  | 1 => .array .int
  | 2 => .array .long
  | _ => .array .int
abbrev wsX00 : List Cond := u_ws RX0 TX0 4
theorem nmX0 : ∀ a, a < 4 → ∀ b, b < 4 → a ≠ b → (TX0 a).2.1 ≠ (TX0 b).2.1 := by decide +kernel
theorem tyX0_ok : ∀ k, k < 4 → parseFieldDescriptor (TX0 k).2.2.1 = some (tyX0 k) := by decide +kernel
abbrev cX0_init : ByteArray := prog_2_method_1_code
def yX0_init : MethodName := ⟨RX0, "<init>", "(LTrellistag$Lattice;)V"⟩
abbrev cX0_rankInto : ByteArray := prog_2_method_2_code
def yX0_rankInto : MethodName := ⟨RX0, "rankInto", "(LTrellistag$Ranking;)V"⟩
abbrev cX0_sumInto : ByteArray := prog_2_method_3_code
def yX0_sumInto : MethodName := ⟨RX0, "sumInto", "([JI)V"⟩
abbrev cX0_countPaths : ByteArray := prog_2_method_4_code
def yX0_countPaths : MethodName := ⟨RX0, "countPaths", "()I"⟩
abbrev cX0_startWalk : ByteArray := prog_2_method_5_code
def yX0_startWalk : MethodName := ⟨RX0, "startWalk", "()V"⟩
abbrev cX0_goOn : ByteArray := prog_2_method_6_code
def yX0_goOn : MethodName := ⟨RX0, "goOn", "()V"⟩
abbrev cX0_weighFrom : ByteArray := prog_2_method_7_code
def yX0_weighFrom : MethodName := ⟨RX0, "weighFrom", "(I)V"⟩
def RX1 : String := "Trellistag$Corpus"
def TX1 : u_T := fun k => match k with
  | 0 => ("Trellistag$Corpus", "texts", "[LTrellistag$Text;", true)
  | 1 => ("Trellistag$Corpus", "firsts", "[I", true)
  | 2 => ("Trellistag$Corpus", "steps", "[[I", true)
  | 3 => ("Trellistag$Corpus", "size", "I", false)
  | _ => ("Trellistag$Corpus", "counting", "I", false)
def tyX1 : Nat → FieldType := fun k => match k with
  | 0 => .array (.object "Trellistag$Text")
  | 1 => .array .int
  | 2 => .array (.array .int)
  | 3 => .int
  | _ => .int
abbrev wsX10 : List Cond := u_ws RX1 TX1 5
theorem nmX1 : ∀ a, a < 5 → ∀ b, b < 5 → a ≠ b → (TX1 a).2.1 ≠ (TX1 b).2.1 := by decide +kernel
theorem tyX1_ok : ∀ k, k < 5 → parseFieldDescriptor (TX1 k).2.2.1 = some (tyX1 k) := by decide +kernel
abbrev cX1_init : ByteArray := prog_3_method_1_code
def yX1_init : MethodName := ⟨RX1, "<init>", "()V"⟩
abbrev cX1_draft : ByteArray := prog_3_method_2_code
def yX1_draft : MethodName := ⟨RX1, "draft", "()LTrellistag$Text;"⟩
abbrev cX1_isFull : ByteArray := prog_3_method_3_code
def yX1_isFull : MethodName := ⟨RX1, "isFull", "()Z"⟩
abbrev cX1_holds : ByteArray := prog_3_method_4_code
def yX1_holds : MethodName := ⟨RX1, "holds", "(I)Z"⟩
abbrev cX1_counting : ByteArray := prog_3_method_5_code
def yX1_counting : MethodName := ⟨RX1, "counting", "()I"⟩
abbrev cX1_keepDraft : ByteArray := prog_3_method_6_code
def yX1_keepDraft : MethodName := ⟨RX1, "keepDraft", "()I"⟩
abbrev cX1_letCount : ByteArray := prog_3_method_7_code
def yX1_letCount : MethodName := ⟨RX1, "letCount", "(IZ)Z"⟩
abbrev cX1_change : ByteArray := prog_3_method_8_code
def yX1_change : MethodName := ⟨RX1, "change", "(LTrellistag$Text;I)V"⟩
abbrev cX1_stepWeight : ByteArray := prog_3_method_9_code
def yX1_stepWeight : MethodName := ⟨RX1, "stepWeight", "(II)I"⟩
abbrev cX1_weigh : ByteArray := prog_3_method_10_code
def yX1_weigh : MethodName := ⟨RX1, "weigh", "(I[I)V"⟩
abbrev cX1_factorOf : ByteArray := prog_3_method_11_code
def yX1_factorOf : MethodName := ⟨RX1, "factorOf", "(I)I"⟩
abbrev cX1_countInText : ByteArray := prog_3_method_12_code
def yX1_countInText : MethodName := ⟨RX1, "countInText", "(LTrellistag$Text;II[I)I"⟩
abbrev cX1_likeness : ByteArray := prog_3_method_13_code
def yX1_likeness : MethodName := ⟨RX1, "likeness", "(II)I"⟩
abbrev cX1_clearRow : ByteArray := prog_3_method_14_code
def yX1_clearRow : MethodName := ⟨RX1, "clearRow", "([I)V"⟩
def RX2 : String := "Trellistag$Lattice"
def TX2 : u_T := fun k => match k with
  | 0 => ("Trellistag$Lattice", "corpus", "LTrellistag$Corpus;", true)
  | 1 => ("Trellistag$Lattice", "sentence", "LTrellistag$Sentence;", true)
  | 2 => ("Trellistag$Lattice", "wordWeights", "[[I", true)
  | _ => ("Trellistag$Lattice", "stepWeights", "[[I", true)
def tyX2 : Nat → FieldType := fun k => match k with
  | 0 => .object "Trellistag$Corpus"
  | 1 => .object "Trellistag$Sentence"
  | 2 => .array (.array .int)
  | _ => .array (.array .int)
abbrev wsX20 : List Cond := u_ws RX2 TX2 4
theorem nmX2 : ∀ a, a < 4 → ∀ b, b < 4 → a ≠ b → (TX2 a).2.1 ≠ (TX2 b).2.1 := by decide +kernel
theorem tyX2_ok : ∀ k, k < 4 → parseFieldDescriptor (TX2 k).2.2.1 = some (tyX2 k) := by decide +kernel
abbrev cX2_init : ByteArray := prog_4_method_1_code
def yX2_init : MethodName := ⟨RX2, "<init>", "(LTrellistag$Corpus;LTrellistag$Sentence;)V"⟩
abbrev cX2_size : ByteArray := prog_4_method_2_code
def yX2_size : MethodName := ⟨RX2, "size", "()I"⟩
abbrev cX2_weighAll : ByteArray := prog_4_method_3_code
def yX2_weighAll : MethodName := ⟨RX2, "weighAll", "()V"⟩
abbrev cX2_ruleOut : ByteArray := prog_4_method_4_code
def yX2_ruleOut : MethodName := ⟨RX2, "ruleOut", "(I)V"⟩
abbrev cX2_arc : ByteArray := prog_4_method_5_code
def yX2_arc : MethodName := ⟨RX2, "arc", "(III)J"⟩
def RX3 : String := "Trellistag$PathFinder"
def TX3 : u_T := fun k => match k with
  | _ => ("", "", "", false)
def tyX3 : Nat → FieldType := fun k => match k with
  | _ => .int
abbrev wsX30 : List Cond := u_ws RX3 TX3 0
theorem nmX3 : ∀ a, a < 0 → ∀ b, b < 0 → a ≠ b → (TX3 a).2.1 ≠ (TX3 b).2.1 := by decide +kernel
theorem tyX3_ok : ∀ k, k < 0 → parseFieldDescriptor (TX3 k).2.2.1 = some (tyX3 k) := by decide +kernel
abbrev cX3_init : ByteArray := prog_5_method_1_code
def yX3_init : MethodName := ⟨RX3, "<init>", "()V"⟩
def RX4 : String := "Trellistag$Ranking"
def TX4 : u_T := fun k => match k with
  | 0 => ("Trellistag$Ranking", "weights", "[J", true)
  | 1 => ("Trellistag$Ranking", "paths", "[I", true)
  | _ => ("Trellistag$Ranking", "size", "I", false)
def tyX4 : Nat → FieldType := fun k => match k with
  | 0 => .array .long
  | 1 => .array .int
  | _ => .int
abbrev wsX40 : List Cond := u_ws RX4 TX4 3
theorem nmX4 : ∀ a, a < 3 → ∀ b, b < 3 → a ≠ b → (TX4 a).2.1 ≠ (TX4 b).2.1 := by decide +kernel
theorem tyX4_ok : ∀ k, k < 3 → parseFieldDescriptor (TX4 k).2.2.1 = some (tyX4 k) := by decide +kernel
abbrev cX4_init : ByteArray := prog_6_method_1_code
def yX4_init : MethodName := ⟨RX4, "<init>", "()V"⟩
abbrev cX4_removeAll : ByteArray := prog_6_method_2_code
def yX4_removeAll : MethodName := ⟨RX4, "removeAll", "()V"⟩
abbrev cX4_offer : ByteArray := prog_6_method_3_code
def yX4_offer : MethodName := ⟨RX4, "offer", "(JI)V"⟩
abbrev cX4_insert : ByteArray := prog_6_method_4_code
def yX4_insert : MethodName := ⟨RX4, "insert", "(IJI)V"⟩
abbrev cX4_offerAll : ByteArray := prog_6_method_5_code
def yX4_offerAll : MethodName := ⟨RX4, "offerAll", "(LTrellistag$Ranking;)V"⟩
abbrev cX4_offerExtended : ByteArray := prog_6_method_6_code
def yX4_offerExtended : MethodName := ⟨RX4, "offerExtended", "(LTrellistag$Ranking;JI)V"⟩
abbrev cX4_weightOf : ByteArray := prog_6_method_7_code
def yX4_weightOf : MethodName := ⟨RX4, "weightOf", "(I)J"⟩
abbrev cX4_tagOf : ByteArray := prog_6_method_8_code
def yX4_tagOf : MethodName := ⟨RX4, "tagOf", "(II)I"⟩
abbrev cX4_extended : ByteArray := prog_6_method_9_code
def yX4_extended : MethodName := ⟨RX4, "extended", "(II)I"⟩
def RX5 : String := "Trellistag$Sentence"
def TX5 : u_T := fun k => match k with
  | 0 => ("Trellistag$Sentence", "words", "[I", true)
  | 1 => ("Trellistag$Sentence", "locks", "[I", true)
  | _ => ("Trellistag$Sentence", "size", "I", false)
def tyX5 : Nat → FieldType := fun k => match k with
  | 0 => .array .int
  | 1 => .array .int
  | _ => .int
abbrev wsX50 : List Cond := u_ws RX5 TX5 3
theorem nmX5 : ∀ a, a < 3 → ∀ b, b < 3 → a ≠ b → (TX5 a).2.1 ≠ (TX5 b).2.1 := by decide +kernel
theorem tyX5_ok : ∀ k, k < 3 → parseFieldDescriptor (TX5 k).2.2.1 = some (tyX5 k) := by decide +kernel
abbrev cX5_init : ByteArray := prog_7_method_1_code
def yX5_init : MethodName := ⟨RX5, "<init>", "()V"⟩
abbrev cX5_size : ByteArray := prog_7_method_2_code
def yX5_size : MethodName := ⟨RX5, "size", "()I"⟩
abbrev cX5_isFull : ByteArray := prog_7_method_3_code
def yX5_isFull : MethodName := ⟨RX5, "isFull", "()Z"⟩
abbrev cX5_append : ByteArray := prog_7_method_4_code
def yX5_append : MethodName := ⟨RX5, "append", "(I)I"⟩
abbrev cX5_removeAll : ByteArray := prog_7_method_5_code
def yX5_removeAll : MethodName := ⟨RX5, "removeAll", "()I"⟩
abbrev cX5_wordAt : ByteArray := prog_7_method_6_code
def yX5_wordAt : MethodName := ⟨RX5, "wordAt", "(I)I"⟩
abbrev cX5_lockTo : ByteArray := prog_7_method_7_code
def yX5_lockTo : MethodName := ⟨RX5, "lockTo", "(II)I"⟩
abbrev cX5_allows : ByteArray := prog_7_method_8_code
def yX5_allows : MethodName := ⟨RX5, "allows", "(II)Z"⟩
def RX6 : String := "Trellistag$Text"
def TX6 : u_T := fun k => match k with
  | 0 => ("Trellistag$Text", "words", "[I", true)
  | 1 => ("Trellistag$Text", "tags", "[I", true)
  | 2 => ("Trellistag$Text", "size", "I", false)
  | _ => ("Trellistag$Text", "counts", "Z", false)
def tyX6 : Nat → FieldType := fun k => match k with
  | 0 => .array .int
  | 1 => .array .int
  | 2 => .int
  | _ => .boolean
abbrev wsX60 : List Cond := u_ws RX6 TX6 4
theorem nmX6 : ∀ a, a < 4 → ∀ b, b < 4 → a ≠ b → (TX6 a).2.1 ≠ (TX6 b).2.1 := by decide +kernel
theorem tyX6_ok : ∀ k, k < 4 → parseFieldDescriptor (TX6 k).2.2.1 = some (tyX6 k) := by decide +kernel
abbrev cX6_init : ByteArray := prog_8_method_1_code
def yX6_init : MethodName := ⟨RX6, "<init>", "()V"⟩
abbrev cX6_isEmpty : ByteArray := prog_8_method_2_code
def yX6_isEmpty : MethodName := ⟨RX6, "isEmpty", "()Z"⟩
abbrev cX6_isFull : ByteArray := prog_8_method_3_code
def yX6_isFull : MethodName := ⟨RX6, "isFull", "()Z"⟩
abbrev cX6_append : ByteArray := prog_8_method_4_code
def yX6_append : MethodName := ⟨RX6, "append", "(II)I"⟩
def RX7 : String := "Trellistag$Trellis"
def TX7 : u_T := fun k => match k with
  | 0 => ("Trellistag$Trellis", "lattice", "LTrellistag$Lattice;", true)
  | 1 => ("Trellistag$Trellis", "rankings", "[LTrellistag$Ranking;", true)
  | 2 => ("Trellistag$Trellis", "sumsAhead", "[[J", true)
  | _ => ("Trellistag$Trellis", "sumsBehind", "[[J", true)
def tyX7 : Nat → FieldType := fun k => match k with
  | 0 => .object "Trellistag$Lattice"
  | 1 => .array (.object "Trellistag$Ranking")
  | 2 => .array (.array .long)
  | _ => .array (.array .long)
abbrev wsX70 : List Cond := u_ws RX7 TX7 4
theorem nmX7 : ∀ a, a < 4 → ∀ b, b < 4 → a ≠ b → (TX7 a).2.1 ≠ (TX7 b).2.1 := by decide +kernel
theorem tyX7_ok : ∀ k, k < 4 → parseFieldDescriptor (TX7 k).2.2.1 = some (tyX7 k) := by decide +kernel
abbrev cX7_init : ByteArray := prog_9_method_1_code
def yX7_init : MethodName := ⟨RX7, "<init>", "(LTrellistag$Lattice;)V"⟩
abbrev cX7_rankInto : ByteArray := prog_9_method_2_code
def yX7_rankInto : MethodName := ⟨RX7, "rankInto", "(LTrellistag$Ranking;)V"⟩
abbrev cX7_rankUpTo : ByteArray := prog_9_method_3_code
def yX7_rankUpTo : MethodName := ⟨RX7, "rankUpTo", "(II)V"⟩
abbrev cX7_rankingAt : ByteArray := prog_9_method_4_code
def yX7_rankingAt : MethodName := ⟨RX7, "rankingAt", "(II)LTrellistag$Ranking;"⟩
abbrev cX7_sumInto : ByteArray := prog_9_method_5_code
def yX7_sumInto : MethodName := ⟨RX7, "sumInto", "([JI)V"⟩
abbrev cX7_sumAhead : ByteArray := prog_9_method_6_code
def yX7_sumAhead : MethodName := ⟨RX7, "sumAhead", "(II)J"⟩
abbrev cX7_sumBehind : ByteArray := prog_9_method_7_code
def yX7_sumBehind : MethodName := ⟨RX7, "sumBehind", "(II)J"⟩
def RX8 : String := "Trellistag$TypedWord"
def TX8 : u_T := fun k => match k with
  | 0 => ("Trellistag$TypedWord", "code", "I", false)
  | _ => ("Trellistag$TypedWord", "letters", "I", false)
def tyX8 : Nat → FieldType := fun k => match k with
  | 0 => .int
  | _ => .int
abbrev wsX80 : List Cond := u_ws RX8 TX8 2
theorem nmX8 : ∀ a, a < 2 → ∀ b, b < 2 → a ≠ b → (TX8 a).2.1 ≠ (TX8 b).2.1 := by decide +kernel
theorem tyX8_ok : ∀ k, k < 2 → parseFieldDescriptor (TX8 k).2.2.1 = some (tyX8 k) := by decide +kernel
abbrev cX8_init : ByteArray := prog_10_method_1_code
def yX8_init : MethodName := ⟨RX8, "<init>", "()V"⟩
abbrev cX8_isEmpty : ByteArray := prog_10_method_2_code
def yX8_isEmpty : MethodName := ⟨RX8, "isEmpty", "()Z"⟩
abbrev cX8_isFull : ByteArray := prog_10_method_3_code
def yX8_isFull : MethodName := ⟨RX8, "isFull", "()Z"⟩
abbrev cX8_append : ByteArray := prog_10_method_4_code
def yX8_append : MethodName := ⟨RX8, "append", "(C)I"⟩
abbrev cX8_code : ByteArray := prog_10_method_5_code
def yX8_code : MethodName := ⟨RX8, "code", "()I"⟩
abbrev cX8_take : ByteArray := prog_10_method_6_code
def yX8_take : MethodName := ⟨RX8, "take", "()I"⟩
def RX9 : String := "Trellistag"
def TX9 : u_T := fun k => match k with
  | 0 => ("Trellistag", "typed", "LTrellistag$TypedWord;", true)
  | 1 => ("Trellistag", "corpus", "LTrellistag$Corpus;", true)
  | 2 => ("Trellistag", "sentence", "LTrellistag$Sentence;", true)
  | 3 => ("Trellistag", "lattice", "LTrellistag$Lattice;", true)
  | 4 => ("Trellistag", "trellis", "LTrellistag$PathFinder;", true)
  | 5 => ("Trellistag", "allPaths", "LTrellistag$PathFinder;", true)
  | 6 => ("Trellistag", "best", "LTrellistag$Ranking;", true)
  | 7 => ("Trellistag", "tagWeights", "[I", true)
  | _ => ("Trellistag", "tagSums", "[J", true)
def tyX9 : Nat → FieldType := fun k => match k with
  | 0 => .object "Trellistag$TypedWord"
  | 1 => .object "Trellistag$Corpus"
  | 2 => .object "Trellistag$Sentence"
  | 3 => .object "Trellistag$Lattice"
  | 4 => .object "Trellistag$PathFinder"
  | 5 => .object "Trellistag$PathFinder"
  | 6 => .object "Trellistag$Ranking"
  | 7 => .array .int
  | _ => .array .long
abbrev wsX90 : List Cond := u_ws RX9 TX9 9
theorem nmX9 : ∀ a, a < 9 → ∀ b, b < 9 → a ≠ b → (TX9 a).2.1 ≠ (TX9 b).2.1 := by decide +kernel
theorem tyX9_ok : ∀ k, k < 9 → parseFieldDescriptor (TX9 k).2.2.1 = some (tyX9 k) := by decide +kernel
abbrev cX9_init : ByteArray := prog_1_method_1_code
def yX9_init : MethodName := ⟨RX9, "<init>", "()V"⟩
abbrev cX9_letter : ByteArray := prog_1_method_2_code
def yX9_letter : MethodName := ⟨RX9, "letter", "(C)I"⟩
abbrev cX9_tag : ByteArray := prog_1_method_3_code
def yX9_tag : MethodName := ⟨RX9, "tag", "(I)I"⟩
abbrev cX9_add : ByteArray := prog_1_method_4_code
def yX9_add : MethodName := ⟨RX9, "add", "()I"⟩
abbrev cX9_text : ByteArray := prog_1_method_5_code
def yX9_text : MethodName := ⟨RX9, "text", "(IZ)Z"⟩
abbrev cX9_word : ByteArray := prog_1_method_6_code
def yX9_word : MethodName := ⟨RX9, "word", "()I"⟩
abbrev cX9_clear : ByteArray := prog_1_method_7_code
def yX9_clear : MethodName := ⟨RX9, "clear", "()I"⟩
abbrev cX9_lock : ByteArray := prog_1_method_8_code
def yX9_lock : MethodName := ⟨RX9, "lock", "(II)I"⟩
abbrev cX9_weight : ByteArray := prog_1_method_9_code
def yX9_weight : MethodName := ⟨RX9, "weight", "(I)I"⟩
abbrev cX9_step : ByteArray := prog_1_method_10_code
def yX9_step : MethodName := ⟨RX9, "step", "(II)I"⟩
abbrev cX9_path : ByteArray := prog_1_method_11_code
def yX9_path : MethodName := ⟨RX9, "path", "(II)I"⟩
abbrev cX9_pathAnew : ByteArray := prog_1_method_12_code
def yX9_pathAnew : MethodName := ⟨RX9, "pathAnew", "(II)I"⟩
abbrev cX9_product : ByteArray := prog_1_method_13_code
def yX9_product : MethodName := ⟨RX9, "product", "(I)J"⟩
abbrev cX9_cost : ByteArray := prog_1_method_14_code
def yX9_cost : MethodName := ⟨RX9, "cost", "()I"⟩
abbrev cX9_share : ByteArray := prog_1_method_15_code
def yX9_share : MethodName := ⟨RX9, "share", "(II)I"⟩
abbrev cX9_shareAnew : ByteArray := prog_1_method_16_code
def yX9_shareAnew : MethodName := ⟨RX9, "shareAnew", "(II)I"⟩
abbrev cX9_texts : ByteArray := prog_1_method_17_code
def yX9_texts : MethodName := ⟨RX9, "texts", "()I"⟩
abbrev cX9_tagOnPath : ByteArray := prog_1_method_18_code
def yX9_tagOnPath : MethodName := ⟨RX9, "tagOnPath", "(LTrellistag$PathFinder;II)I"⟩
abbrev cX9_rankPaths : ByteArray := prog_1_method_19_code
def yX9_rankPaths : MethodName := ⟨RX9, "rankPaths", "(LTrellistag$PathFinder;)V"⟩
abbrev cX9_shareOfTag : ByteArray := prog_1_method_20_code
def yX9_shareOfTag : MethodName := ⟨RX9, "shareOfTag", "(LTrellistag$PathFinder;II)I"⟩
abbrev cX9_total : ByteArray := prog_1_method_21_code
def yX9_total : MethodName := ⟨RX9, "total", "([J)J"⟩
abbrev cX9_thousandths : ByteArray := prog_1_method_22_code
def yX9_thousandths : MethodName := ⟨RX9, "thousandths", "(JJ)I"⟩
abbrev cX9_doublings : ByteArray := prog_1_method_23_code
def yX9_doublings : MethodName := ⟨RX9, "doublings", "(J)I"⟩
abbrev cX9_isTag : ByteArray := prog_1_method_24_code
def yX9_isTag : MethodName := ⟨RX9, "isTag", "(I)Z"⟩
abbrev cX9_requireTag : ByteArray := prog_1_method_25_code
def yX9_requireTag : MethodName := ⟨RX9, "requireTag", "(I)V"⟩
abbrev cX9_requireTagOrNone : ByteArray := prog_1_method_26_code
def yX9_requireTagOrNone : MethodName := ⟨RX9, "requireTagOrNone", "(I)V"⟩
abbrev cX9_requireRank : ByteArray := prog_1_method_27_code
def yX9_requireRank : MethodName := ⟨RX9, "requireRank", "(I)V"⟩
abbrev cX9_requirePlace : ByteArray := prog_1_method_28_code
def yX9_requirePlace : MethodName := ⟨RX9, "requirePlace", "(I)V"⟩
abbrev cX9_requireTyped : ByteArray := prog_1_method_29_code
def yX9_requireTyped : MethodName := ⟨RX9, "requireTyped", "()V"⟩
abbrev cX9_requireSentence : ByteArray := prog_1_method_30_code
def yX9_requireSentence : MethodName := ⟨RX9, "requireSentence", "()V"⟩
def RX10 : String := "TrellistagModel"
def TX10 : u_T := fun k => match k with
  | 0 => ("TrellistagModel", "thrown", "I", false)
  | 1 => ("TrellistagModel", "typed", "I", false)
  | 2 => ("TrellistagModel", "letters", "I", false)
  | 3 => ("TrellistagModel", "draft", "[I", true)
  | 4 => ("TrellistagModel", "draftTag", "[I", true)
  | 5 => ("TrellistagModel", "drafted", "I", false)
  | 6 => ("TrellistagModel", "its", "[I", true)
  | 7 => ("TrellistagModel", "tagOf", "[I", true)
  | 8 => ("TrellistagModel", "many", "[I", true)
  | 9 => ("TrellistagModel", "counts", "[Z", true)
  | 10 => ("TrellistagModel", "texts", "I", false)
  | 11 => ("TrellistagModel", "sentence", "[I", true)
  | 12 => ("TrellistagModel", "locked", "[I", true)
  | 13 => ("TrellistagModel", "places", "I", false)
  | 14 => ("TrellistagModel", "ofWord", "[J", true)
  | 15 => ("TrellistagModel", "ofStep", "[J", true)
  | 16 => ("TrellistagModel", "ofFirst", "[J", true)
  | 17 => ("TrellistagModel", "best", "[J", true)
  | 18 => ("TrellistagModel", "bestPath", "[I", true)
  | 19 => ("TrellistagModel", "found", "I", false)
  | 20 => ("TrellistagModel", "sum", "J", false)
  | _ => ("TrellistagModel", "part", "J", false)
def tyX10 : Nat → FieldType := fun k => match k with
  | 0 => .int
  | 1 => .int
  | 2 => .int
  | 3 => .array .int
  | 4 => .array .int
  | 5 => .int
  | 6 => .array .int
  | 7 => .array .int
  | 8 => .array .int
  | 9 => .array .boolean
  | 10 => .int
  | 11 => .array .int
  | 12 => .array .int
  | 13 => .int
  | 14 => .array .long
  | 15 => .array .long
  | 16 => .array .long
  | 17 => .array .long
  | 18 => .array .int
  | 19 => .int
  | 20 => .long
  | _ => .long
abbrev wsX100 : List Cond := u_ws RX10 TX10 22
theorem nmX10 : ∀ a, a < 22 → ∀ b, b < 22 → a ≠ b → (TX10 a).2.1 ≠ (TX10 b).2.1 := by decide +kernel
theorem tyX10_ok : ∀ k, k < 22 → parseFieldDescriptor (TX10 k).2.2.1 = some (tyX10 k) := by decide +kernel
abbrev cX10_init : ByteArray := prog_12_method_1_code
def yX10_init : MethodName := ⟨RX10, "<init>", "()V"⟩
abbrev cX10_thrown : ByteArray := prog_12_method_2_code
def yX10_thrown : MethodName := ⟨RX10, "thrown", "()I"⟩
abbrev cX10_holds : ByteArray := prog_12_method_3_code
def yX10_holds : MethodName := ⟨RX10, "holds", "(I)Z"⟩
abbrev cX10_isIn : ByteArray := prog_12_method_4_code
def yX10_isIn : MethodName := ⟨RX10, "isIn", "(III)Z"⟩
abbrev cX10_isTag : ByteArray := prog_12_method_5_code
def yX10_isTag : MethodName := ⟨RX10, "isTag", "(I)Z"⟩
abbrev cX10_isPlace : ByteArray := prog_12_method_6_code
def yX10_isPlace : MethodName := ⟨RX10, "isPlace", "(I)Z"⟩
abbrev cX10_letter : ByteArray := prog_12_method_7_code
def yX10_letter : MethodName := ⟨RX10, "letter", "(C)I"⟩
abbrev cX10_takes : ByteArray := prog_12_method_8_code
def yX10_takes : MethodName := ⟨RX10, "takes", "()I"⟩
abbrev cX10_tag : ByteArray := prog_12_method_9_code
def yX10_tag : MethodName := ⟨RX10, "tag", "(I)I"⟩
abbrev cX10_add : ByteArray := prog_12_method_10_code
def yX10_add : MethodName := ⟨RX10, "add", "()I"⟩
abbrev cX10_text : ByteArray := prog_12_method_11_code
def yX10_text : MethodName := ⟨RX10, "text", "(IZ)Z"⟩
abbrev cX10_word : ByteArray := prog_12_method_12_code
def yX10_word : MethodName := ⟨RX10, "word", "()I"⟩
abbrev cX10_clear : ByteArray := prog_12_method_13_code
def yX10_clear : MethodName := ⟨RX10, "clear", "()I"⟩
abbrev cX10_lock : ByteArray := prog_12_method_14_code
def yX10_lock : MethodName := ⟨RX10, "lock", "(II)I"⟩
abbrev cX10_often : ByteArray := prog_12_method_15_code
def yX10_often : MethodName := ⟨RX10, "often", "(III)I"⟩
abbrev cX10_atMost : ByteArray := prog_12_method_16_code
def yX10_atMost : MethodName := ⟨RX10, "atMost", "(II)I"⟩
abbrev cX10_weightFor : ByteArray := prog_12_method_17_code
def yX10_weightFor : MethodName := ⟨RX10, "weightFor", "(II)I"⟩
abbrev cX10_weightOf : ByteArray := prog_12_method_18_code
def yX10_weightOf : MethodName := ⟨RX10, "weightOf", "(II)I"⟩
abbrev cX10_lays : ByteArray := prog_12_method_19_code
def yX10_lays : MethodName := ⟨RX10, "lays", "()V"⟩
abbrev cX10_paths : ByteArray := prog_12_method_20_code
def yX10_paths : MethodName := ⟨RX10, "paths", "()I"⟩
abbrev cX10_tagAt : ByteArray := prog_12_method_21_code
def yX10_tagAt : MethodName := ⟨RX10, "tagAt", "(II)I"⟩
abbrev cX10_weightOfPath : ByteArray := prog_12_method_22_code
def yX10_weightOfPath : MethodName := ⟨RX10, "weightOfPath", "(I)J"⟩
abbrev cX10_goes : ByteArray := prog_12_method_23_code
def yX10_goes : MethodName := ⟨RX10, "goes", "(II)V"⟩
abbrev cX10_weight : ByteArray := prog_12_method_24_code
def yX10_weight : MethodName := ⟨RX10, "weight", "(I)I"⟩
abbrev cX10_step : ByteArray := prog_12_method_25_code
def yX10_step : MethodName := ⟨RX10, "step", "(II)I"⟩
abbrev cX10_isRank : ByteArray := prog_12_method_26_code
def yX10_isRank : MethodName := ⟨RX10, "isRank", "(I)Z"⟩
abbrev cX10_onPath : ByteArray := prog_12_method_27_code
def yX10_onPath : MethodName := ⟨RX10, "onPath", "(II)I"⟩
abbrev cX10_path : ByteArray := prog_12_method_28_code
def yX10_path : MethodName := ⟨RX10, "path", "(II)I"⟩
abbrev cX10_pathAnew : ByteArray := prog_12_method_29_code
def yX10_pathAnew : MethodName := ⟨RX10, "pathAnew", "(II)I"⟩
abbrev cX10_weightOfRank : ByteArray := prog_12_method_30_code
def yX10_weightOfRank : MethodName := ⟨RX10, "weightOfRank", "(I)J"⟩
abbrev cX10_product : ByteArray := prog_12_method_31_code
def yX10_product : MethodName := ⟨RX10, "product", "(I)J"⟩
abbrev cX10_cost : ByteArray := prog_12_method_32_code
def yX10_cost : MethodName := ⟨RX10, "cost", "()I"⟩
abbrev cX10_shareOf : ByteArray := prog_12_method_33_code
def yX10_shareOf : MethodName := ⟨RX10, "shareOf", "(II)I"⟩
abbrev cX10_share : ByteArray := prog_12_method_34_code
def yX10_share : MethodName := ⟨RX10, "share", "(II)I"⟩
abbrev cX10_shareAnew : ByteArray := prog_12_method_35_code
def yX10_shareAnew : MethodName := ⟨RX10, "shareAnew", "(II)I"⟩
abbrev cX10_texts : ByteArray := prog_12_method_36_code
def yX10_texts : MethodName := ⟨RX10, "texts", "()I"⟩
def RJ9 : String := "java/lang/Math"
def TJ9 : u_T := fun k => match k with
  | _ => ("", "", "", false)
def tyJ9 : Nat → FieldType := fun k => match k with
  | _ => .int
abbrev wsJ90 : List Cond := u_ws RJ9 TJ9 0
theorem nmJ9 : ∀ a, a < 0 → ∀ b, b < 0 → a ≠ b → (TJ9 a).2.1 ≠ (TJ9 b).2.1 := by decide +kernel
theorem tyJ9_ok : ∀ k, k < 0 → parseFieldDescriptor (TJ9 k).2.2.1 = some (tyJ9 k) := by decide +kernel
abbrev cJ9_min_7cf53 : ByteArray := prog_17_method_69_code
def yJ9_min_7cf53 : MethodName := ⟨RJ9, "min", "(II)I"⟩
def RJ0 : String := "java/lang/String"
def TJ0 : u_T := fun k => match k with
  | _ => ("", "", "", false)
def tyJ0 : Nat → FieldType := fun k => match k with
  | _ => .int
abbrev wsJ00 : List Cond := u_ws RJ0 TJ0 0
theorem nmJ0 : ∀ a, a < 0 → ∀ b, b < 0 → a ≠ b → (TJ0 a).2.1 ≠ (TJ0 b).2.1 := by decide +kernel
theorem tyJ0_ok : ∀ k, k < 0 → parseFieldDescriptor (TJ0 k).2.2.1 = some (tyJ0 k) := by decide +kernel
def RL : String := "TrellistagLaw"
abbrev cL_letter : ByteArray := method_3_code
def yL_letter : MethodName := ⟨RL, "letter", "(LTrellistag;C[J)I"⟩
abbrev cL_tag : ByteArray := method_4_code
def yL_tag : MethodName := ⟨RL, "tag", "(LTrellistag;I[J)I"⟩
abbrev cL_add : ByteArray := method_5_code
def yL_add : MethodName := ⟨RL, "add", "(LTrellistag;[J)I"⟩
abbrev cL_text : ByteArray := method_6_code
def yL_text : MethodName := ⟨RL, "text", "(LTrellistag;IZ[J)I"⟩
abbrev cL_word : ByteArray := method_7_code
def yL_word : MethodName := ⟨RL, "word", "(LTrellistag;[J)I"⟩
abbrev cL_lock : ByteArray := method_8_code
def yL_lock : MethodName := ⟨RL, "lock", "(LTrellistag;II[J)I"⟩
abbrev cL_weight : ByteArray := method_9_code
def yL_weight : MethodName := ⟨RL, "weight", "(LTrellistag;I[J)I"⟩
abbrev cL_step : ByteArray := method_10_code
def yL_step : MethodName := ⟨RL, "step", "(LTrellistag;II[J)I"⟩
abbrev cL_path : ByteArray := method_11_code
def yL_path : MethodName := ⟨RL, "path", "(LTrellistag;II[J)I"⟩
abbrev cL_pathAnew : ByteArray := method_12_code
def yL_pathAnew : MethodName := ⟨RL, "pathAnew", "(LTrellistag;II[J)I"⟩
abbrev cL_product : ByteArray := method_13_code
def yL_product : MethodName := ⟨RL, "product", "(LTrellistag;I[J)I"⟩
abbrev cL_cost : ByteArray := method_14_code
def yL_cost : MethodName := ⟨RL, "cost", "(LTrellistag;[J)I"⟩
abbrev cL_share : ByteArray := method_15_code
def yL_share : MethodName := ⟨RL, "share", "(LTrellistag;II[J)I"⟩
abbrev cL_shareAnew : ByteArray := method_16_code
def yL_shareAnew : MethodName := ⟨RL, "shareAnew", "(LTrellistag;II[J)I"⟩
abbrev cL_law : ByteArray := code
def yL_law : MethodName := ⟨RL, "law", "([I)Z"⟩
end
section
/-! ===== the small machine: numbers are integers; an address is a number from 1 on, 0 is the script; a heap is what kind each cell is, where its references go, and the numbers that it holds ===== -/
abbrev mMV : Type := Int ⊕ (Int ⊕ Option Nat)
abbrev vI (x : Int) : mMV := Sum.inl x
abbrev vJ (x : Int) : mMV := Sum.inr (Sum.inl x)
abbrev vR (r : Option Nat) : mMV := Sum.inr (Sum.inr r)
abbrev mLS : Type := List (Option mMV)
abbrev mST : Type := List mMV
abbrev mMS : Type := (Nat × Bool) × (Nat × Nat) × (Nat → Nat × Nat) × (Nat → Nat → Option Nat)
abbrev mMM : Type := Nat → Nat → Int
abbrev mMH : Type := mMS × mMM
abbrev mN (h : mMH) : Nat := h.1.1.1
abbrev mT (h : mMH) : Bool := h.1.1.2
abbrev mC (h : mMH) : Nat := h.1.2.1.1
abbrev mSl (h : mMH) : Nat := h.1.2.1.2
abbrev mK (h : mMH) : Nat → Nat × Nat := h.1.2.2.1
abbrev mR (h : mMH) : Nat → Nat → Option Nat := h.1.2.2.2
def up (m : mMM) (a k : Nat) (v : Int) : mMM := fun x j => if x = a then (if j = k then v else m x j) else m x j
def upR (m : Nat → Nat → Option Nat) (a k : Nat) (v : Option Nat) : Nat → Nat → Option Nat := fun x j => if x = a then (if j = k then v else m x j) else m x j
def alloc (h : mMH) (k : Nat × Nat) (sl : Nat) : mMH := (((mN h + 1, true), (mC h + 1, mSl h + sl), (fun a => bif Nat.beq a (mN h) then k else mK h a), (fun a j => bif Nat.beq a (mN h) then none else mR h a j)), (fun a j => bif Nat.beq a (mN h) then 0 else h.2 a j))
def thr (h : mMH) : mMH := (((mN h, false), (mC h + 1, mSl h + 6), mK h, mR h), h.2)
def kq (h : mMH) (a t x : Nat) : Bool := Nat.beq (mK h a).1 t && Nat.beq (mK h a).2 x
def ka (h : mMH) (a t : Nat) (i : Int) : Bool := Nat.beq (mK h a).1 t && (decide (0 ≤ i) && decide (i < ((mK h a).2 : Int)))
def inI (x : Int) : Bool := decide (-2147483648 ≤ x) && decide (x < 2147483648)
def inJ (x : Int) : Bool := decide (-9223372036854775808 ≤ x) && decide (x < 9223372036854775808)
def mcat : mMV → Nat
  | .inr (.inl _) => 2
  | _ => 1
def roomy (st : mST) : Bool := Nat.ble ((st.map mcat).sum) 8
abbrev mRR : Type := (Nat × (mLS × mST) × mMH) ⊕ ((Option mMV × mMH) ⊕ ((Nat × mMH) ⊕ (Nat × List mMV × Nat × mST)))
abbrev mOP : Type := mLS → mST → mMH → Option mRR
def nxt (pc : Nat) (ls : mLS) (st : mST) (h : mMH) : Option mRR := some (.inl (pc, (ls, st), h))
def kp (k : Nat) (ls : mLS) : mLS := match k with
  | 0 => ls
  | k + 1 => match ls[k]? with
    | some (some (.inr (.inl _))) => ls.set k none
    | _ => ls
def st1 (k : Nat) (v : mMV) (ls : mLS) : mLS := (kp k ls).set k (some v)
def st2 (k : Nat) (v : mMV) (ls : mLS) : mLS := ((kp k ls).set k (some v)).set (k + 1) none
-- constants, locals
def mo_const (v : mMV) (nx : Nat) : mOP := fun ls st h => nxt nx ls (v :: st) h
def mo_iload (k nx : Nat) : mOP := fun ls st h => match ls[k]? with
  | some (some (.inl x)) => nxt nx ls (vI x :: st) h
  | _ => none
def mo_lload (k nx : Nat) : mOP := fun ls st h => match ls[k]? with
  | some (some (.inr (.inl x))) => nxt nx ls (vJ x :: st) h
  | _ => none
def mo_aload (k nx : Nat) : mOP := fun ls st h => match ls[k]? with
  | some (some (.inr (.inr (some x)))) => nxt nx ls (vR (some x) :: st) h
  | _ => none
def mo_istore (k nx : Nat) : mOP := fun ls st h => match st with
  | .inl x :: r => bif Nat.blt k ls.length then nxt nx (st1 k (vI x) ls) r h else none
  | _ => none
def mo_lstore (k nx : Nat) : mOP := fun ls st h => match st with
  | .inr (.inl x) :: r => bif Nat.blt (k + 1) ls.length then nxt nx (st2 k (vJ x) ls) r h else none
  | _ => none
def mo_astore (k nx : Nat) : mOP := fun ls st h => match st with
  | .inr (.inr (some x)) :: r => bif Nat.blt k ls.length then nxt nx (st1 k (vR (some x)) ls) r h else none
  | _ => none
def mo_iinc (k : Nat) (n : Int) (nx : Nat) : mOP := fun ls st h => match ls[k]? with
  | some (some (.inl x)) => nxt nx (st1 k (vI (x + n)) ls) st h
  | _ => none
-- arithmetic
def mo_iadd (nx : Nat) : mOP := fun ls st h => match st with
  | .inl y :: .inl x :: r => nxt nx ls (vI (x + y) :: r) h
  | _ => none
def mo_isub (nx : Nat) : mOP := fun ls st h => match st with
  | .inl y :: .inl x :: r => nxt nx ls (vI (x - y) :: r) h
  | _ => none
def mo_imul (nx : Nat) : mOP := fun ls st h => match st with
  | .inl y :: .inl x :: r => nxt nx ls (vI (x * y) :: r) h
  | _ => none
def mo_idiv (nx : Nat) : mOP := fun ls st h => match st with
  | .inl y :: .inl x :: r => bif inI x && (inI y && decide (0 < y)) then nxt nx ls (vI (x.tdiv y) :: r) h else none
  | _ => none
def mo_irem (nx : Nat) : mOP := fun ls st h => match st with
  | .inl y :: .inl x :: r => bif inI x && (inI y && decide (0 < y)) then nxt nx ls (vI (x.tmod y) :: r) h else none
  | _ => none
def mo_iand (nx : Nat) : mOP := fun ls st h => match st with
  | .inl y :: .inl x :: r => bif inI y && (inI x && decide (0 ≤ y)) then (bif decide (0 ≤ x) then nxt nx ls (vI ((x.toNat &&& y.toNat : Nat) : Int) :: r) h else bif decide (y = 15) then nxt nx ls (vI (x % 16) :: r) h else none) else none
  | _ => none
def mo_ior (nx : Nat) : mOP := fun ls st h => match st with
  | .inl y :: .inl x :: r => bif inI y && (inI x && (decide (0 ≤ y) && decide (0 ≤ x))) then nxt nx ls (vI ((x.toNat ||| y.toNat : Nat) : Int) :: r) h else none
  | _ => none
def mo_ishl (nx : Nat) : mOP := fun ls st h => match st with
  | .inl y :: .inl x :: r => bif decide (0 ≤ y) && decide (y < 32) then nxt nx ls (vI (x * 2 ^ y.toNat) :: r) h else none
  | _ => none
def mo_ishr (nx : Nat) : mOP := fun ls st h => match st with
  | .inl y :: .inl x :: r => bif inI x && (decide (0 ≤ y) && decide (y < 32)) then nxt nx ls (vI (x / 2 ^ y.toNat) :: r) h else none
  | _ => none
def mo_ladd (nx : Nat) : mOP := fun ls st h => match st with
  | .inr (.inl y) :: .inr (.inl x) :: r => nxt nx ls (vJ (x + y) :: r) h
  | _ => none
def mo_lmul (nx : Nat) : mOP := fun ls st h => match st with
  | .inr (.inl y) :: .inr (.inl x) :: r => nxt nx ls (vJ (x * y) :: r) h
  | _ => none
def mo_ldiv (nx : Nat) : mOP := fun ls st h => match st with
  | .inr (.inl y) :: .inr (.inl x) :: r => bif inJ x && (inJ y && decide (0 < y)) then nxt nx ls (vJ (x.tdiv y) :: r) h else none
  | _ => none
def mo_lcmp (nx : Nat) : mOP := fun ls st h => match st with
  | .inr (.inl y) :: .inr (.inl x) :: r => bif inJ x && inJ y then nxt nx ls (vI (if x < y then -1 else if x = y then 0 else 1) :: r) h else none
  | _ => none
def mo_i2l (nx : Nat) : mOP := fun ls st h => match st with
  | .inl x :: r => bif inI x then nxt nx ls (vJ x :: r) h else none
  | _ => none
def mo_l2i (nx : Nat) : mOP := fun ls st h => match st with
  | .inr (.inl x) :: r => nxt nx ls (vI x :: r) h
  | _ => none
def mo_i2c (nx : Nat) : mOP := fun ls st h => match st with
  | .inl x :: r => nxt nx ls (vI (x % 65536) :: r) h
  | _ => none
-- stack
def mo_dup (nx : Nat) : mOP := fun ls st h => match st with
  | v :: r => bif Nat.beq (mcat v) 1 then nxt nx ls (v :: v :: r) h else none
  | _ => none
def mo_dup2 (nx : Nat) : mOP := fun ls st h => match st with
  | v :: w :: r => bif Nat.beq (mcat v) 1 && Nat.beq (mcat w) 1 then nxt nx ls (v :: w :: v :: w :: r) h else none
  | _ => none
def mo_dup2l (nx : Nat) : mOP := fun ls st h => match st with
  | .inr (.inl x) :: r => nxt nx ls (vJ x :: vJ x :: r) h
  | _ => none
def mo_pop (nx : Nat) : mOP := fun ls st h => match st with
  | v :: r => bif Nat.beq (mcat v) 1 then nxt nx ls r h else none
  | _ => none
-- branches
def mrel (k : Nat) (x y : Int) : Bool := match k with
  | 0 => decide (x = y)
  | 1 => !decide (x = y)
  | 2 => decide (x < y)
  | 3 => !decide (x < y)
  | 4 => decide (y < x)
  | _ => !decide (y < x)
def mo_icmp (k tgt nx : Nat) : mOP := fun ls st h => match st with
  | .inl y :: .inl x :: r => bif inI x && inI y then (bif mrel k x y then nxt tgt ls r h else nxt nx ls r h) else none
  | _ => none
def mo_if (k tgt nx : Nat) : mOP := fun ls st h => match st with
  | .inl x :: r => bif inI x then (bif mrel k x 0 then nxt tgt ls r h else nxt nx ls r h) else none
  | _ => none
def mo_goto (tgt : Nat) : mOP := fun ls st h => nxt tgt ls st h
def mo_tsw (tgts : List Nat) : mOP := fun ls st h => match st with
  | .inl x :: r => bif inI x && decide (0 ≤ x) then (match tgts[x.toNat]? with
    | some t => nxt t ls r h
    | none => none) else none
  | _ => none
-- fields
def mo_getI (c k nx : Nat) : mOP := fun ls st h => match st with
  | .inr (.inr (some a)) :: r => bif kq h a 0 c then nxt nx ls (vI (h.2 a k) :: r) h else none
  | _ => none
def mo_getJ (c k nx : Nat) : mOP := fun ls st h => match st with
  | .inr (.inr (some a)) :: r => bif kq h a 0 c then nxt nx ls (vJ (h.2 a k) :: r) h else none
  | _ => none
def mo_getR (c k nx : Nat) : mOP := fun ls st h => match st with
  | .inr (.inr (some a)) :: r => bif kq h a 0 c then nxt nx ls (vR (mR h a k) :: r) h else none
  | _ => none
def mo_putI (c k nx : Nat) : mOP := fun ls st h => match st with
  | .inl x :: .inr (.inr (some a)) :: r => bif kq h a 0 c then nxt nx ls r (h.1, up h.2 a k x) else none
  | _ => none
def mo_putZ (c k nx : Nat) : mOP := fun ls st h => match st with
  | .inl x :: .inr (.inr (some a)) :: r => bif kq h a 0 c && (decide (x = 0) || decide (x = 1)) then nxt nx ls r (h.1, up h.2 a k x) else none
  | _ => none
def mo_putJ (c k nx : Nat) : mOP := fun ls st h => match st with
  | .inr (.inl x) :: .inr (.inr (some a)) :: r => bif kq h a 0 c then nxt nx ls r (h.1, up h.2 a k x) else none
  | _ => none
def mo_putR (c k nx : Nat) : mOP := fun ls st h => match st with
  | .inr (.inr (some v)) :: .inr (.inr (some a)) :: r => bif kq h a 0 c then nxt nx ls r ((h.1.1, h.1.2.1, mK h, upR (mR h) a k (some v)), h.2) else none
  | _ => none
-- arrays
def mo_iald (nx : Nat) : mOP := fun ls st h => match st with
  | .inl i :: .inr (.inr (some a)) :: r => bif ka h a 1 i then nxt nx ls (vI (h.2 a i.toNat) :: r) h else none
  | _ => none
def mo_lald (nx : Nat) : mOP := fun ls st h => match st with
  | .inl i :: .inr (.inr (some a)) :: r => bif ka h a 2 i then nxt nx ls (vJ (h.2 a i.toNat) :: r) h else none
  | _ => none
def mo_zald (nx : Nat) : mOP := fun ls st h => match st with
  | .inl i :: .inr (.inr (some a)) :: r => bif ka h a 3 i then nxt nx ls (vI (h.2 a i.toNat) :: r) h else none
  | _ => none
def mo_aald (t nx : Nat) : mOP := fun ls st h => match st with
  | .inl i :: .inr (.inr (some a)) :: r => bif ka h a t i then nxt nx ls (vR (mR h a i.toNat) :: r) h else none
  | _ => none
def mo_iast (nx : Nat) : mOP := fun ls st h => match st with
  | .inl x :: .inl i :: .inr (.inr (some a)) :: r => bif ka h a 1 i then nxt nx ls r (h.1, up h.2 a i.toNat x) else none
  | _ => none
def mo_last (nx : Nat) : mOP := fun ls st h => match st with
  | .inr (.inl x) :: .inl i :: .inr (.inr (some a)) :: r => bif ka h a 2 i then nxt nx ls r (h.1, up h.2 a i.toNat x) else none
  | _ => none
def mo_zast (nx : Nat) : mOP := fun ls st h => match st with
  | .inl x :: .inl i :: .inr (.inr (some a)) :: r => bif ka h a 3 i && (decide (x = 0) || decide (x = 1)) then nxt nx ls r (h.1, up h.2 a i.toNat x) else none
  | _ => none
def mo_aast (t c nx : Nat) : mOP := fun ls st h => match st with
  | .inr (.inr (some v)) :: .inl i :: .inr (.inr (some a)) :: r => bif ka h a t i && kq h v 0 c then nxt nx ls r ((h.1.1, h.1.2.1, mK h, upR (mR h) a i.toNat (some v)), h.2) else none
  | _ => none
def mo_alen (t nx : Nat) : mOP := fun ls st h => match st with
  | .inr (.inr (some a)) :: r => bif Nat.beq (mK h a).1 t then nxt nx ls (vI ((mK h a).2 : Int) :: r) h else none
  | _ => none
-- the script, at address 0
def mo_slen (L nx : Nat) : mOP := fun ls st h => match st with
  | .inr (.inr (some 0)) :: r => nxt nx ls (vI (L : Int) :: r) h
  | _ => none
def mo_sld (L : Nat) (xs : Nat → Int32) (nx : Nat) : mOP := fun ls st h => match st with
  | .inl i :: .inr (.inr (some 0)) :: r => bif decide (0 ≤ i) && decide (i < (L : Int)) then nxt nx ls (vI (xs i.toNat).toInt :: r) h else none
  | _ => none
-- what is made
def mo_new (c n nx : Nat) : mOP := fun ls st h => bif mT h then nxt nx ls (vR (some (mN h)) :: st) (alloc h (0, c) n) else none
def mo_newa (t nx : Nat) : mOP := fun ls st h => match st with
  | .inl n :: r => bif mT h && (decide (0 ≤ n) && decide (n ≤ 1000)) then nxt nx ls (vR (some (mN h)) :: r) (alloc h (t, n.toNat) n.toNat) else none
  | _ => none
def rowsOf (h : mMH) (t t1 N K : Nat) : mMH := (((mN h + 1 + N, true), (mC h + 1 + N, mSl h + N + N * K), (fun a => bif Nat.blt a (mN h) then mK h a else bif Nat.beq a (mN h) then (t, N) else bif Nat.blt a (mN h + 1 + N) then (t1, K) else mK h a),
  (fun a j => bif Nat.blt a (mN h) then mR h a j else bif Nat.beq a (mN h) then (bif Nat.blt j N then some (mN h + 1 + j) else none) else bif Nat.blt a (mN h + 1 + N) then none else mR h a j)), (fun a j => bif Nat.blt a (mN h) then h.2 a j else bif Nat.blt a (mN h + 1 + N) then 0 else h.2 a j))
def mo_mna (t t1 nx : Nat) : mOP := fun ls st h => match st with
  | .inl k :: .inl n :: r => bif mT h && ((decide (0 ≤ n) && decide (n ≤ 1000)) && (decide (0 ≤ k) && decide (k ≤ 1000))) then nxt nx ls (vR (some (mN h)) :: r) (rowsOf h t t1 n.toNat k.toNat) else none
  | _ => none
def mo_objinit (nx : Nat) : mOP := fun ls st h => match st with
  | .inr (.inr (some _)) :: r => bif roomy r then nxt nx ls r h else none
  | _ => none
-- calls: the callee's number, its class, how many values it takes
def mo_callS (i n nx : Nat) : mOP := fun _ st _ => bif Nat.ble n st.length && roomy (st.drop n) then some (.inr (.inr (.inr (i, (st.take n).reverse, nx, st.drop n)))) else none
def mo_callV (i c n nx : Nat) : mOP := fun _ st h => match (st.take (n + 1)).reverse with
  | .inr (.inr (some a)) :: as => bif kq h a 0 c && (Nat.beq as.length n && roomy (st.drop (n + 1))) then some (.inr (.inr (.inr (i, vR (some a) :: as, nx, st.drop (n + 1))))) else none
  | _ => none
def mo_callU (i1 c1 i2 c2 n nx : Nat) : mOP := fun _ st h => match (st.take (n + 1)).reverse with
  | .inr (.inr (some a)) :: as => bif Nat.beq as.length n && roomy (st.drop (n + 1)) then (bif kq h a 0 c1 then some (.inr (.inr (.inr (i1, vR (some a) :: as, nx, st.drop (n + 1))))) else bif kq h a 0 c2 then some (.inr (.inr (.inr (i2, vR (some a) :: as, nx, st.drop (n + 1))))) else none) else none
  | _ => none
-- ends
def mo_iret : mOP := fun _ st h => match st with
  | [.inl x] => some (.inr (.inl (some (vI x), h)))
  | _ => none
def mo_zret : mOP := fun _ st h => match st with
  | [.inl x] => bif decide (x = 0) || decide (x = 1) then some (.inr (.inl (some (vI x), h))) else none
  | _ => none
def mo_lret : mOP := fun _ st h => match st with
  | [.inr (.inl x)] => some (.inr (.inl (some (vJ x), h)))
  | _ => none
def mo_aret : mOP := fun _ st h => match st with
  | [.inr (.inr (some a))] => some (.inr (.inl (some (vR (some a)), h)))
  | _ => none
def mo_vret : mOP := fun _ st h => match st with
  | [] => some (.inr (.inl (none, h)))
  | _ => none
def mo_thr (E : Nat) : mOP := fun _ st h => bif roomy st then some (.inr (.inr (.inl (E, thr h)))) else none
/-- a method: its name, its bytes, its locals, what it returns, its table, what its handlers answer, its code -/
abbrev mMD : Type := (MethodName × ByteArray × Nat × Option FieldType) × (List (Nat × Nat × Nat × Nat) × List (Nat × Int)) × List (Nat × mOP)
abbrev dY (d : mMD) : MethodName := d.1.1
abbrev dB (d : mMD) : ByteArray := d.1.2.1
abbrev dL (d : mMD) : Nat := d.1.2.2.1
abbrev dT (d : mMD) : Option FieldType := d.1.2.2.2
abbrev dH (d : mMD) : List (Nat × Nat × Nat × Nat) := d.2.1.1
abbrev dX (d : mMD) : List (Nat × Int) := d.2.1.2
abbrev dC (d : mMD) : List (Nat × mOP) := d.2.2
def lk : List (Nat × mOP) → Nat → Option mOP
  | [], _ => none
  | q :: r, n => bif Nat.beq q.1 n then some q.2 else lk r n
def lx : List (Nat × Int) → Nat → Option Int
  | [], _ => none
  | q :: r, n => bif Nat.beq q.1 n then some q.2 else lx r n
def argL : List mMV → mLS
  | [] => []
  | .inr (.inl x) :: r => some (vJ x) :: none :: argL r
  | v :: r => some v :: argL r
def entL (n : Nat) (as : List mMV) : mLS := argL as ++ List.replicate (n - (argL as).length) none
def hcov (hh : List (Nat × Nat × Nat × Nat)) (pc : Nat) : Bool := hh.all (fun q => Nat.ble q.1 pc && Nat.blt pc q.2.1)
abbrev mRO : Type := (Option mMV ⊕ Nat) × mMH
def run (P : Nat → mMD) : Nat → Nat → Nat → Nat → mLS → mST → mMH → Option mRO
  | 0, _, _, _, _, _, _ => none
  | n + 1, d, j, pc, ls, st, h => match lk (dC (P j)) pc with
    | none => none
    | some f => match f ls st h with
      | none => none
      | some (.inl q) => run P n d j q.1 q.2.1.1 q.2.1.2 q.2.2
      | some (.inr (.inl q)) => some (.inl q.1, q.2)
      | some (.inr (.inr (.inl q))) => bif Nat.ble 7 d then some (.inr q.1, q.2) else none
      | some (.inr (.inr (.inr q))) => match d with
        | 0 => none
        | d' + 1 => bif Nat.ble (argL q.2.1).length (dL (P q.1)) then (match run P n d' q.1 0 (entL (dL (P q.1)) q.2.1) [] h with
          | none => none
          | some (.inl v, h1) => bif Nat.ble (mC h) (mC h1) && Nat.ble (mSl h) (mSl h1) then run P n d j q.2.2.1 ls (v.toList ++ q.2.2.2) h1 else none
          | some (.inr E, h1) => bif Nat.ble (mC h) (mC h1) && Nat.ble (mSl h) (mSl h1) then (match dX (P j) with
            | [] => some (.inr E, h1)
            | q0 :: qs => (match lx (q0 :: qs) E with
              | none => none
              | some k => bif hcov (dH (P j)) pc then some (.inl (some (vI k)), h1) else none)) else none) else none
end
section
/-! ===== the small machine against the machine: words, cells, the heap ===== -/
def w_all : List Cond := lw_tbl.filter goodWord
theorem w_in {w : Cond} (i : Nat) (h : lw_tbl[i]? = some w) (g : goodWord w = true) : w ∈ w_all := List.mem_filter.mpr ⟨List.mem_of_getElem? h, g⟩
theorem w_good {w : Cond} (h : w ∈ w_all) : w ∈ w_all ∧ ((w.onTables && w.keeps) = true ∨ ∃ ty, w = .arrayClass ty) := ⟨h, good_of_word (List.mem_filter.mp h).2⟩
def w_nst (w : Cond) : Bool := match w with
  | .fieldLinkNest .. => true
  | .methodLinkNest .. => true
  | .castable .. => true
  | .declares .. => true
  | _ => false
def w_bad : List Cond := lw_tbl.filter w_nst
theorem w_bin {w : Cond} (i : Nat) (h : lw_tbl[i]? = some w) (g : w_nst w = true) : w ∈ w_bad := List.mem_filter.mpr ⟨List.mem_of_getElem? h, g⟩
theorem w_warm {w : Cond} {s U : State} (hw : w_nst w = true) (hW : s.WarmedH U.vm) (h : va_Nw w s) : va_Nw w U := by
  cases w with
  | fieldLinkNest a i b n d h0 => exact va_Nw.warmF hW h
  | methodLinkNest a i x h0 => exact va_Nw.warmM hW h
  | castable C T => exact va_Nw.warmC hW h
  | declares x => exact va_Nw.warmD hW h
  | _ => cases hw
def w_over : List FieldType := [.object "Trellistag$Text", .object "Trellistag$Ranking", .array .int, .array .long]
theorem w_ovm {t : FieldType} {u U : State} (hvm : u.vm.Alike U.vm) (h : (Cond.arrayOver t).before #[] u = true) : (Cond.arrayOver t).before #[] U = true := by
  have e : (Cond.arrayOver t).before #[] U = (Cond.arrayOver t).before #[] (u.setVm U.vm) := rfl
  rw [e, Cond.arrayOver_setVmC hvm t]
  exact h
def w_str : List (Nat × String) := [(71, "a letter is one of a to z"), (82, "the word that is typed has all its letters"), (228, "there is no such tag"), (235, "nothing is typed"), (103, "the draft has all its words"), (115, "the draft is empty"), (118, "there are all the texts that there can be"), (129, "there is no such text"), (137, "the sentence has all its words"), (232, "there is no such place"), (230, "there is no such rank"), (237, "the sentence is empty")]
-- classes
abbrev vwCl : List vw_C := [(RX0, TX0, 4), (RX1, TX1, 5), (RX2, TX2, 4), (RX4, TX4, 3), (RX5, TX5, 3), (RX6, TX6, 4), (RX7, TX7, 4), (RX8, TX8, 2), (RX9, TX9, 9), (RX10, TX10, 22)]
def tyC (c : Nat) : Nat → FieldType := match c with
  | 0 => tyX0
  | 1 => tyX1
  | 2 => tyX2
  | 3 => tyX4
  | 4 => tyX5
  | 5 => tyX6
  | 6 => tyX7
  | 7 => tyX8
  | 8 => tyX9
  | _ => tyX10
def nF (c : Nat) : Nat := match c with
  | 0 => 4
  | 1 => 5
  | 2 => 4
  | 3 => 3
  | 4 => 3
  | 5 => 4
  | 6 => 4
  | 7 => 2
  | 8 => 9
  | _ => 22
def tyA (t : Nat) : FieldType := match t with
  | 1 => .int
  | 2 => .long
  | 3 => .boolean
  | 4 => .array .int
  | 5 => .array .long
  | 6 => .object "Trellistag$Text"
  | _ => .object "Trellistag$Ranking"
def tysL (aC : Nat → ClassId) : List (ClassId × FieldType) := [(aC 1, tyA 1), (aC 2, tyA 2), (aC 3, tyA 3), (aC 4, tyA 4), (aC 5, tyA 5), (aC 6, tyA 6), (aC 7, tyA 7)]
-- addresses and values
def adr (B b k : Nat) : Nat := if k = 0 then b else B + k
theorem adr_pos {B b k : Nat} (h : 1 ≤ k) : adr B b k = B + k := if_neg (by omega)
def eR (B b : Nat) (r : Option Nat) : Value := va_rf (r.map (adr B b))
def eV (B b : Nat) (v : mMV) : Value := match v with
  | .inl x => .int (Int32.ofInt x)
  | .inr (.inl x) => .long (Int64.ofInt x)
  | .inr (.inr r) => eR B b r
def eF (B b : Nat) (ty : FieldType) (x : Int) (r : Option Nat) : Value := match ty with
  | .long => .long (Int64.ofInt x)
  | .object _ => eR B b r
  | .array _ => eR B b r
  | _ => .int (Int32.ofInt x)
def oe (B b : Nat) (aC : Nat → ClassId) (h : mMH) (k : Nat) : va_E := match (mK h k).1 with
  | 0 => .inr ((mK h k).2, (List.range (nF (mK h k).2)).map (fun j => eF B b (tyC (mK h k).2 j) (h.2 k j) (mR h k j)))
  | 1 => .inl (aC 1, (mK h k).2, .inl (fun j => Int32.ofInt (h.2 k j)))
  | 2 => .inl (aC 2, (mK h k).2, .inr (.inl (fun j => Int64.ofInt (h.2 k j))))
  | 3 => .inl (aC 3, (mK h k).2, .inl (fun j => Int32.ofInt (h.2 k j)))
  | t => .inl (aC t, (mK h k).2, .inr (.inr (.inr (.inr (fun j => (mR h k j).map (adr B b))))))
def en (E : Nat) : String := match E with
  | 0 => "java/lang/IllegalArgumentException"
  | 1 => "java/lang/IllegalStateException"
  | _ => "java/lang/IndexOutOfBoundsException"
def HR (B b : Nat) (D : va_G) (aC : Nat → ClassId) (h : mMH) (H : Heap) : Prop :=
  ((mT h = true → H.size = B + mN h) ∧ B + mN h ≤ H.size ∧ 1 ≤ mN h) ∧ (∀ k, (mK h k).1 ≠ 9 → (1 ≤ k ∧ k < mN h) ∧ (mK h k).2 ≤ 1000) ∧ ∀ k, (mK h k).1 ≠ 9 → va_at D vwCl (B + k, oe B b aC h k) H
def Gl (B b L : Nat) (xs : Nat → Int32) (U : State) (H : Heap) : Prop :=
  (B < H.size ∧ b ≤ B) ∧ va_X b L xs U H ∧ vx_Zq Bundle.tN "UNASSIGNED_STACK" Bundle.steD (fun q => B < q) U H ∧ vx_Zq Bundle.tN "SUPPRESSED_SENTINEL" Bundle.listD (fun q => B < q) U H ∧ (∀ q ∈ w_str, ∃ a, vk_R "Trellistag" q.1 q.2 a U) ∧ (∀ w ∈ w_bad, va_Nw w U) ∧ (∀ t ∈ w_over, (Cond.arrayOver t).before #[] U = true) ∧ ∀ E F : Nat, E < 3 → F < 3 → E ≠ F → va_Nc (en E) (en F) U
theorem Gl.moved {B b L : Nat} {xs : Nat → Int32} {s U : State} {H : Heap} (hW : s.WarmedH U.vm) (h : Gl B b L xs s H) : Gl B b L xs U H := by
  obtain ⟨h1, h2, h3, h4, h5, h6, h7, h8⟩ := h
  refine ⟨h1, h2.moved hW.alike, vx_Zq.moved hW.alike h3, vx_Zq.moved hW.alike h4, fun q hq => ?_, fun w hw => w_warm (List.mem_filter.mp hw).2 hW (h6 w hw), fun t ht => w_ovm hW.alike (h7 t ht), fun E F hE hF hn => (h8 E F hE hF hn).moved hW.alike⟩
  obtain ⟨a, ha⟩ := h5 q hq
  exact ⟨a, ha.warm hW⟩
theorem Gl.kept {B b L : Nat} {xs : Nat → Int32} {U : State} {H H1 : Heap} (h : Gl B b L xs U H) (hz : H.size ≤ H1.size) (hq : ∀ q : Nat, q ≤ B → H1[q]? = H[q]?) : Gl B b L xs U H1 := by
  obtain ⟨h1, h2, h3, h4, h5, h6, h7, h8⟩ := h
  exact ⟨⟨by omega, h1.2⟩, h2.kept (hq b h1.2), h3.kept (fun a _ h => hq a (Nat.not_lt.mp h)), h4.kept (fun a _ h => hq a (Nat.not_lt.mp h)), h5, h6, h7, h8⟩
theorem kq_k {h : mMH} {a t x : Nat} (hk : kq h a t x = true) : mK h a = (t, x) := by
  unfold kq at hk
  rw [Bool.and_eq_true] at hk
  exact Prod.ext (Nat.eq_of_beq_eq_true hk.1) (Nat.eq_of_beq_eq_true hk.2)
theorem ka_k {h : mMH} {a t : Nat} {i : Int} (hk : ka h a t i = true) : (mK h a).1 = t ∧ 0 ≤ i ∧ i < ((mK h a).2 : Int) := by
  unfold ka at hk
  rw [Bool.and_eq_true, Bool.and_eq_true, decide_eq_true_eq, decide_eq_true_eq] at hk
  exact ⟨Nat.eq_of_beq_eq_true hk.1, hk.2⟩
theorem oe_0 {B b : Nat} {aC : Nat → ClassId} {h : mMH} {a c : Nat} (hk : mK h a = (0, c)) : oe B b aC h a = .inr (c, (List.range (nF c)).map (fun j => eF B b (tyC c j) (h.2 a j) (mR h a j))) := by
  simp only [oe, hk]
theorem oe_1 {B b : Nat} {aC : Nat → ClassId} {h : mMH} {a : Nat} (hk : (mK h a).1 = 1) : oe B b aC h a = .inl (aC 1, (mK h a).2, .inl (fun j => Int32.ofInt (h.2 a j))) := by
  simp only [oe, hk]
theorem oe_2 {B b : Nat} {aC : Nat → ClassId} {h : mMH} {a : Nat} (hk : (mK h a).1 = 2) : oe B b aC h a = .inl (aC 2, (mK h a).2, .inr (.inl (fun j => Int64.ofInt (h.2 a j)))) := by
  simp only [oe, hk]
theorem oe_3 {B b : Nat} {aC : Nat → ClassId} {h : mMH} {a : Nat} (hk : (mK h a).1 = 3) : oe B b aC h a = .inl (aC 3, (mK h a).2, .inl (fun j => Int32.ofInt (h.2 a j))) := by
  simp only [oe, hk]
theorem oe_4 {B b : Nat} {aC : Nat → ClassId} {h : mMH} {a t : Nat} (hk : (mK h a).1 = t) (ht : 4 ≤ t) : oe B b aC h a = .inl (aC t, (mK h a).2, .inr (.inr (.inr (.inr (fun j => (mR h a j).map (adr B b)))))) := by
  obtain ⟨u, rfl⟩ : ∃ u, t = u + 4 := ⟨t - 4, by omega⟩
  simp only [oe, hk]
theorem w_sub (ws : List Cond) (ps : List Nat) (hp : ws = ps.filterMap (fun i => lw_tbl[i]?)) (h : ws.all goodWord = true) : ∀ w ∈ ws, w ∈ w_all := by
  intro w hw
  have h1 := List.all_eq_true.mp h w hw
  rw [hp] at hw
  obtain ⟨i, -, hi⟩ := List.mem_filterMap.mp hw
  exact w_in i hi h1
theorem w_cls_X0 : ∀ w ∈ wsX00, w ∈ w_all := w_sub _ [208, 210, 212, 214] (by decide +kernel) (by decide +kernel)
theorem w_cls_X1 : ∀ w ∈ wsX10, w ∈ w_all := w_sub _ [109, 111, 113, 115, 117] (by decide +kernel) (by decide +kernel)
theorem w_cls_X2 : ∀ w ∈ wsX20, w ∈ w_all := w_sub _ [147, 149, 151, 153] (by decide +kernel) (by decide +kernel)
theorem w_cls_X4 : ∀ w ∈ wsX40, w ∈ w_all := w_sub _ [177, 179, 181] (by decide +kernel) (by decide +kernel)
theorem w_cls_X5 : ∀ w ∈ wsX50, w ∈ w_all := w_sub _ [129, 131, 133] (by decide +kernel) (by decide +kernel)
theorem w_cls_X6 : ∀ w ∈ wsX60, w ∈ w_all := w_sub _ [94, 96, 98, 100] (by decide +kernel) (by decide +kernel)
theorem w_cls_X7 : ∀ w ∈ wsX70, w ∈ w_all := w_sub _ [189, 191, 193, 195] (by decide +kernel) (by decide +kernel)
theorem w_cls_X8 : ∀ w ∈ wsX80, w ∈ w_all := w_sub _ [67, 69] (by decide +kernel) (by decide +kernel)
theorem w_cls_X9 : ∀ w ∈ wsX90, w ∈ w_all := w_sub _ [228, 230, 232, 234, 236, 238, 240, 242, 244] (by decide +kernel) (by decide +kernel)
theorem w_cls_X10 : ∀ w ∈ wsX100, w ∈ w_all := w_sub _ [760, 762, 764, 766, 768, 770, 772, 774, 776, 778, 780, 782, 784, 786, 788, 790, 792, 794, 796, 798, 800, 802] (by decide +kernel) (by decide +kernel)
/-- a class's words and types -/
theorem cls_ok : ∀ (c : Nat) (q : vw_C), vwCl[c]? = some q → (∀ w ∈ u_ws q.1 q.2.1 q.2.2, w ∈ w_all) ∧ (∀ k, k < q.2.2 → parseFieldDescriptor (q.2.1 k).2.2.1 = some (tyC c k)) ∧ (∀ a, a < q.2.2 → ∀ b, b < q.2.2 → a ≠ b → (q.2.1 a).2.1 ≠ (q.2.1 b).2.1) ∧ nF c = q.2.2 := by
  intro c q hq
  match c, hq with
  | 0, hq => cases hq; exact ⟨w_cls_X0, tyX0_ok, nmX0, rfl⟩
  | 1, hq => cases hq; exact ⟨w_cls_X1, tyX1_ok, nmX1, rfl⟩
  | 2, hq => cases hq; exact ⟨w_cls_X2, tyX2_ok, nmX2, rfl⟩
  | 3, hq => cases hq; exact ⟨w_cls_X4, tyX4_ok, nmX4, rfl⟩
  | 4, hq => cases hq; exact ⟨w_cls_X5, tyX5_ok, nmX5, rfl⟩
  | 5, hq => cases hq; exact ⟨w_cls_X6, tyX6_ok, nmX6, rfl⟩
  | 6, hq => cases hq; exact ⟨w_cls_X7, tyX7_ok, nmX7, rfl⟩
  | 7, hq => cases hq; exact ⟨w_cls_X8, tyX8_ok, nmX8, rfl⟩
  | 8, hq => cases hq; exact ⟨w_cls_X9, tyX9_ok, nmX9, rfl⟩
  | 9, hq => cases hq; exact ⟨w_cls_X10, tyX10_ok, nmX10, rfl⟩
  | c + 10, hq => simp [vwCl] at hq
theorem hr_live {B b : Nat} {D : va_G} {aC : Nat → ClassId} {h : mMH} {H : Heap} (hH : HR B b D aC h H) {a t x : Nat} (hk : mK h a = (t, x)) (ht : t ≠ 9) : (1 ≤ a ∧ a < mN h) ∧ x ≤ 1000 ∧ va_at D vwCl (B + a, oe B b aC h a) H := by
  have h9 : (mK h a).1 ≠ 9 := by rw [hk]; exact ht
  have h1 := hH.2.1 a h9
  rw [hk] at h1
  exact ⟨h1.1, h1.2, hH.2.2 a h9⟩
/-- a cell is written: what the heap holds then -/
theorem hr_put {B b : Nat} {D : va_G} {aC : Nat → ClassId} {h h' : mMH} {H H1 : Heap} (hH : HR B b D aC h H) {a : Nat} (h1 : h'.1.1 = h.1.1) (hk : mK h' = mK h) (hm : ∀ k, k ≠ a → h'.2 k = h.2 k) (hr : ∀ k, k ≠ a → mR h' k = mR h k)
    (hat : va_at D vwCl (B + a, oe B b aC h' a) H1) (hz : H1.size = H.size) (ho : ∀ q : Nat, q ≠ B + a → H1[q]? = H[q]?) : HR B b D aC h' H1 := by
  obtain ⟨⟨z1, z2, z3⟩, k1, c1⟩ := hH
  have e1 : mN h' = mN h := by show h'.1.1.1 = h.1.1.1; rw [h1]
  have e2 : mT h' = mT h := by show h'.1.1.2 = h.1.1.2; rw [h1]
  refine ⟨⟨by rw [e1, e2, hz]; exact z1, by rw [e1, hz]; exact z2, by rw [e1]; exact z3⟩, by rw [hk, e1]; exact k1, fun k h9 => ?_⟩
  by_cases q : k = a
  · rw [q]; exact hat
  · have e3 : oe B b aC h' k = oe B b aC h k := by unfold oe; rw [hk, hm k q, hr k q]
    rw [e3]
    exact (c1 k (by rw [← hk]; exact h9)).kept (ho _ (by show B + k ≠ B + a; omega))
end
section
/-! ===== a step of the small machine is a step of the machine ===== -/
def lsR (B b nL : Nat) (lsl : mLS) (ls : Array Slot) : Prop := ∃ lv : List (Nat × Value), lv_has ls nL lv ∧ lsl.length = nL ∧ ∀ (i : Nat) (v : mMV), lsl[i]? = some (some v) → (i, eV B b v) ∈ lv
theorem lsR.at {B b nL : Nat} {lsl : mLS} {ls : Array Slot} (h : lsR B b nL lsl ls) {i : Nat} {v : mMV} (hv : lsl[i]? = some (some v)) : ls[i]? = some (.val (eV B b v)) := by
  obtain ⟨lv, h1, -, h2⟩ := h
  exact h1.2.2 _ (h2 i v hv)
theorem kp_at {k j : Nat} {ls : mLS} {v : mMV} (h : (kp k ls)[j]? = some (some v)) : ls[j]? = some (some v) ∧ ¬ (j + 1 = k ∧ mcat v = 2) := by
  unfold kp at h
  cases k with
  | zero => exact ⟨h, by omega⟩
  | succ k =>
    dsimp only at h
    split at h
    · rename_i x hx
      by_cases q : k = j
      · subst q
        rw [List.getElem?_set_self' , hx] at h
        simp at h
      · rw [List.getElem?_set_ne q] at h
        exact ⟨h, by omega⟩
    · rename_i hx
      refine ⟨h, fun q => ?_⟩
      obtain ⟨q1, q2⟩ := q
      have e : j = k := by omega
      subst e
      match v, q2 with
      | .inr (.inl x), _ => exact hx x h
      | .inl x, q2 => simp [mcat] at q2
      | .inr (.inr x), q2 => simp [mcat] at q2
theorem kp_len (k : Nat) (ls : mLS) : (kp k ls).length = ls.length := by
  unfold kp
  cases k with
  | zero => rfl
  | succ k => dsimp only; split <;> simp
theorem cat_eV (B b : Nat) (v : mMV) : (eV B b v).category = mcat v := by
  match v with
  | .inl x => rfl
  | .inr (.inl x) => rfl
  | .inr (.inr none) => rfl
  | .inr (.inr (some k)) => rfl
theorem lsR_st1 {B b nL k : Nat} {lsl : mLS} {v : mMV} {lv : List (Nat × Value)} {ls' : Array Slot} (hlen : lsl.length = nL) (hk : k < nL) (hm : ∀ (i : Nat) (w : mMV), lsl[i]? = some (some w) → (i, eV B b w) ∈ lv)
    (h : lv_has ls' nL ((k, eV B b v) :: lv.filter (fun q => !(q.1 == k) && !(q.1 + 1 == k && q.2.category == 2)))) : lsR B b nL (st1 k v lsl) ls' := by
  refine ⟨_, h, by simp [st1, kp_len, hlen], fun i w hw => ?_⟩
  unfold st1 at hw
  by_cases q : k = i
  · subst q
    rw [List.getElem?_set_self (by rw [kp_len, hlen]; exact hk)] at hw
    cases hw
    exact List.mem_cons_self
  · rw [List.getElem?_set_ne q] at hw
    obtain ⟨h1, h2⟩ := kp_at hw
    refine List.mem_cons_of_mem _ (List.mem_filter.mpr ⟨hm i w h1, ?_⟩)
    have q' : ¬ i = k := fun z => q z.symm
    simp only [Bool.and_eq_true, Bool.not_eq_true', beq_eq_false_iff_ne, Bool.and_eq_false_iff]
    refine ⟨q', ?_⟩
    by_cases z : i + 1 = k
    · right
      intro z2
      have z3 : (eV B b w).category = 2 := z2
      rw [cat_eV] at z3
      exact h2 ⟨z, z3⟩
    · left; exact z
theorem lsR_st2 {B b nL k : Nat} {lsl : mLS} {v : mMV} {lv : List (Nat × Value)} {ls' : Array Slot} (hlen : lsl.length = nL) (hk : k + 1 < nL) (hm : ∀ (i : Nat) (w : mMV), lsl[i]? = some (some w) → (i, eV B b w) ∈ lv)
    (h : lv_has ls' nL ((k, eV B b v) :: lv.filter (fun q => !(q.1 == k) && (!(q.1 == k + 1) && !(q.1 + 1 == k && q.2.category == 2))))) : lsR B b nL (st2 k v lsl) ls' := by
  refine ⟨_, h, by simp [st2, kp_len, hlen], fun i w hw => ?_⟩
  unfold st2 at hw
  by_cases q1 : k + 1 = i
  · subst q1
    rw [List.getElem?_set_self (by simp [kp_len, hlen]; exact hk)] at hw
    cases hw
  · rw [List.getElem?_set_ne q1] at hw
    by_cases q : k = i
    · subst q
      rw [List.getElem?_set_self (by rw [kp_len, hlen]; omega)] at hw
      cases hw
      exact List.mem_cons_self
    · rw [List.getElem?_set_ne q] at hw
      obtain ⟨h1, h2⟩ := kp_at hw
      refine List.mem_cons_of_mem _ (List.mem_filter.mpr ⟨hm i w h1, ?_⟩)
      have q' : ¬ i = k := fun z => q z.symm
      have q1' : ¬ i = k + 1 := fun z => q1 z.symm
      simp only [Bool.and_eq_true, Bool.not_eq_true', beq_eq_false_iff_ne, Bool.and_eq_false_iff]
      refine ⟨q', q1', ?_⟩
      by_cases z : i + 1 = k
      · right
        intro z2
        have z3 : (eV B b w).category = 2 := z2
        rw [cat_eV] at z3
        exact h2 ⟨z, z3⟩
      · left; exact z
def wC (md : mMD) : Cond := match dH md with
  | [] => .code (dY md) (dB md) (dL md) (dT md)
  | h :: hs => .codeWith (dY md) (dB md) (dL md) (dT md) (h :: hs)
def PcM (B b L : Nat) (xs : Nat → Int32) (D : va_G) (aC : Nat → ClassId) (as : List mMV) (h : mMH) : Array Value → State → Prop := va_Pc (as.map (eV B b)) (fun U => HR B b D aC h U.heap ∧ va_K D vwCl (tysL aC) U ∧ Gl B b L xs U U.heap)
def QcM (B b : Nat) (D : va_G) (aC : Nat → ClassId) (v : Option mMV) (h1 : mMH) : Array Value → State → Outcome → State → Prop := fun _ st oc t => oc = .returned (v.map (eV B b)) ∧ HR B b D aC h1 t.heap ∧ va_F (fun q => B < q) st t
def XCM (B b : Nat) (D : va_G) (aC : Nat → ClassId) (E : Nat) (h1 : mMH) : String → State → State → Prop := fun e9 st t => e9 = en E ∧ HR B b D aC h1 t.heap ∧ va_F (fun q => B < q) st t
/-- a callee's contract: as the small machine has it -/
def CM (B b L : Nat) (xs : Nat → Int32) (D : va_G) (aC : Nat → ClassId) (l : Launch) (md : mMD) (d : Nat) (as : List mMV) (h : mMH) (o : Option mMV ⊕ Nat) (h1 : mMH) : Prop := match o with
  | .inl v => vx_Met l (dY md) (wC md :: w_all) { frames := d + 1, cells := mC h1 - mC h, slots := mSl h1 - mSl h, locals := 106 + 30 * d } (PcM B b L xs D aC as h) (QcM B b D aC v h1) (fun _ _ _ => False) (mC h1 - mC h) (mSl h1 - mSl h) (fun q => B < q)
  | .inr E => vx_Met l (dY md) (wC md :: w_all) { frames := d + 1, cells := mC h1 - mC h, slots := mSl h1 - mSl h, locals := 106 + 30 * d } (PcM B b L xs D aC as h) (fun _ _ _ _ => False) (XCM B b D aC E h1) (mC h1 - mC h) (mSl h1 - mSl h) (fun q => B < q)
/-- what stands fast in a method's frame -/
def Cx (B b L : Nat) (xs : Nat → Int32) (D : va_G) (aC : Nat → ClassId) (p : Program) (l : Launch) (R : Room) (s : State) (m : MethodId) (args : Array Value) (meth : Method) (c : Code) (md : mMD) (d : Nat) : Prop :=
  p.tables.exec = Jvm.exec ∧ c.code = dB md ∧ c.maxLocals = dL md ∧ s.vm.findClass (dY md).cls = some m.cls ∧ (∀ w ∈ w_all, w.before args s = true) ∧ meth.locks = false ∧ l.stackTraces = false ∧ va_K D vwCl (tysL aC) s ∧ Gl B b L xs s s.heap ∧ (d + 1 ≤ R.frames ∧ 106 + 30 * d ≤ R.locals) ∧ c.exceptionTable.toList = tableOf (dH md) ∧ meth.name = (dY md).name
def WP (B b : Nat) (D : va_G) (aC : Nat → ClassId) (p : Program) (l : Launch) (e : Env) (R : Room) (s : State) (m : MethodId) (args : Array Value) (below : List Frame) (meth : Method) (c : Code) (md : mMD) (c0 s0 : Nat) (Q : State → Prop) (pc : Nat) (lsl : mLS) (stl : mST) (h : mMH) : Prop :=
  ∀ (H : Heap) (locs : List Loc) (ls : Array Slot) (cells slots : Nat), HR B b D aC h H → va_S (fun q => B < q) s.heap H locs → lsR B b (dL md) lsl ls → c0 + cells = mC h → s0 + slots = mSl h → W p l e R s m args below meth c H locs cells slots Q (F0 m pc ls (stl.map (eV B b)))
def retIg (md : mMD) (v : Option mMV) (ig : Instr) : Prop := (ig = .ireturn ∧ ∃ x, v = some (vI x) ∧ (dT md = some .int ∨ (dT md = some .boolean ∧ (x = 0 ∨ x = 1)))) ∨ (ig = .lreturn ∧ ∃ x, v = some (vJ x) ∧ dT md = some .long) ∨ (ig = .areturn ∧ ∃ (a : Nat) (C : String), v = some (vR (some a)) ∧ dT md = some (.object C)) ∨ (ig = .return_ ∧ v = none ∧ dT md = none)
def WR (B b : Nat) (D : va_G) (aC : Nat → ClassId) (p : Program) (l : Launch) (e : Env) (R : Room) (s : State) (m : MethodId) (args : Array Value) (below : List Frame) (meth : Method) (c : Code) (md : mMD) (c0 s0 : Nat) (Q : State → Prop) (v : Option mMV) (h : mMH) : Prop :=
  ∀ (H : Heap) (locs : List Loc) (ls : Array Slot) (cells slots pc : Nat) (ig : Instr), HR B b D aC h H → va_S (fun q => B < q) s.heap H locs → c0 + cells = mC h → s0 + slots = mSl h → decode (dB md) pc = .ok (ig, 1) → retIg md v ig → W p l e R s m args below meth c H locs cells slots Q (F0 m pc ls ((v.map (eV B b)).toList))
def WX (B b : Nat) (D : va_G) (aC : Nat → ClassId) (p : Program) (l : Launch) (e : Env) (R : Room) (s : State) (m : MethodId) (args : Array Value) (below : List Frame) (meth : Method) (c : Code) (md : mMD) (c0 s0 : Nat) (Q : State → Prop) (E : Nat) (pc : Nat) (lsl : mLS) (h : mMH) : Prop :=
  ∀ (H : Heap) (locs : List Loc) (ls : Array Slot) (cells slots : Nat) (rest : List Value) (q : Addr) (ce : Cell), HR B b D aC h H → va_S (fun q => B < q) s.heap H locs → lsR B b (dL md) lsl ls → c0 + cells = mC h → s0 + slots = mSl h → H[q]? = some ce → ce.vm = .none → s.vm.findClass (en E) = some ce.cls → vx_W p l e R s m args below meth c H locs cells slots Q (F0 m pc ls rest) q
def TQ (B b : Nat) (D : va_G) (aC : Nat → ClassId) (s : State) (args : Array Value) (below : List Frame) (c0 s0 : Nat) (Q : State → Prop) (E : Nat) (h : mMH) : Prop :=
  ∃ (Qc : Array Value → State → Outcome → State → Prop) (XC : String → State → State → Prop) (mc ms : Nat), Q = vx_MQ below Qc XC args s mc ms (fun q => B < q) ∧ (∀ t : State, s.vm.Alike t.vm → HR B b D aC h t.heap → va_F (fun q => B < q) s t → XC (en E) s t) ∧ mC h ≤ c0 + mc ∧ mSl h ≤ s0 + ms
def SOo (B b : Nat) (D : va_G) (aC : Nat → ClassId) (p : Program) (l : Launch) (e : Env) (R : Room) (s : State) (m : MethodId) (args : Array Value) (below : List Frame) (meth : Method) (c : Code) (md : mMD) (c0 s0 : Nat) (Q : State → Prop) (o : Option mMV ⊕ Nat) (pcR : Nat) (lsl : mLS) (rest : mST) (h1 : mMH) (pc : Nat) (stl : mST) (h : mMH) : Prop := match o with
  | .inl v => WP B b D aC p l e R s m args below meth c md c0 s0 Q pcR lsl (v.toList ++ rest) h1 → WP B b D aC p l e R s m args below meth c md c0 s0 Q pc lsl stl h
  | .inr E => WX B b D aC p l e R s m args below meth c md c0 s0 Q E pc lsl h1 → WP B b D aC p l e R s m args below meth c md c0 s0 Q pc lsl stl h
def SOr (P : Nat → mMD) (B b L : Nat) (xs : Nat → Int32) (D : va_G) (aC : Nat → ClassId) (p : Program) (l : Launch) (e : Env) (R : Room) (s : State) (m : MethodId) (args : Array Value) (below : List Frame) (meth : Method) (c : Code) (md : mMD) (d c0 s0 : Nat) (Q : State → Prop) (pc : Nat) (lsl : mLS) (stl : mST) (h : mMH) (r : mRR) : Prop := match r with
  | .inl q => (mC h ≤ mC q.2.2 ∧ mSl h ≤ mSl q.2.2) ∧ (mC q.2.2 ≤ c0 + R.cells → mSl q.2.2 ≤ s0 + R.slots → WP B b D aC p l e R s m args below meth c md c0 s0 Q q.1 q.2.1.1 q.2.1.2 q.2.2 → WP B b D aC p l e R s m args below meth c md c0 s0 Q pc lsl stl h)
  | .inr (.inl q) => q.2 = h ∧ (WR B b D aC p l e R s m args below meth c md c0 s0 Q q.1 h → WP B b D aC p l e R s m args below meth c md c0 s0 Q pc lsl stl h)
  | .inr (.inr (.inl q)) => (mC h ≤ mC q.2 ∧ mSl h ≤ mSl q.2) ∧ (7 ≤ d → mC q.2 ≤ c0 + R.cells → mSl q.2 ≤ s0 + R.slots → TQ B b D aC s args below c0 s0 Q q.1 q.2 → WP B b D aC p l e R s m args below meth c md c0 s0 Q pc lsl stl h)
  | .inr (.inr (.inr q)) => ∀ (d' : Nat) (o : Option mMV ⊕ Nat) (h1 : mMH), d = d' + 1 → mC h ≤ mC h1 → mSl h ≤ mSl h1 → mC h1 ≤ c0 + R.cells → mSl h1 ≤ s0 + R.slots → dL (P q.1) ≤ 11 → CM B b L xs D aC l (P q.1) d' q.2.1 h o h1 →
    SOo B b D aC p l e R s m args below meth c md c0 s0 Q o q.2.2.1 lsl q.2.2.2 h1 pc stl h
def SO (P : Nat → mMD) (B b L : Nat) (xs : Nat → Int32) (D : va_G) (aC : Nat → ClassId) (p : Program) (l : Launch) (e : Env) (R : Room) (s : State) (m : MethodId) (args : Array Value) (below : List Frame) (meth : Method) (c : Code) (md : mMD) (d c0 s0 : Nat) (Q : State → Prop) (pc : Nat) (f : mOP) : Prop :=
  ∀ (lsl : mLS) (stl : mST) (h : mMH) (r : mRR), f lsl stl h = some r → SOr P B b L xs D aC p l e R s m args below meth c md d c0 s0 Q pc lsl stl h r
section SOA
variable {P : Nat → mMD} {B b L : Nat} {xs : Nat → Int32} {D : va_G} {aC : Nat → ClassId} {p : Program} {l : Launch} {e : Env} {R : Room} {s : State} {m : MethodId} {args : Array Value} {below : List Frame} {meth : Method} {c : Code} {md : mMD} {d c0 s0 : Nat} {Q : State → Prop} {pc : Nat}
theorem so_nx {lsl ls' : mLS} {stl st' : mST} {h h' : mMH} {pc' : Nat} (a : mC h ≤ mC h' ∧ mSl h ≤ mSl h') (k : mC h' ≤ c0 + R.cells → mSl h' ≤ s0 + R.slots → WP B b D aC p l e R s m args below meth c md c0 s0 Q pc' ls' st' h' → WP B b D aC p l e R s m args below meth c md c0 s0 Q pc lsl stl h) : SOr P B b L xs D aC p l e R s m args below meth c md d c0 s0 Q pc lsl stl h (.inl (pc', (ls', st'), h')) := ⟨a, k⟩
theorem so_pu {lsl : mLS} {stl st' : mST} {h : mMH} {pc' : Nat} (k : ∀ (H : Heap) (locs : List Loc) (ls : Array Slot) (cells slots : Nat), HR B b D aC h H → va_S (fun q => B < q) s.heap H locs → lsR B b (dL md) lsl ls → W p l e R s m args below meth c H locs cells slots Q (F0 m pc' ls (st'.map (eV B b))) → W p l e R s m args below meth c H locs cells slots Q (F0 m pc ls (stl.map (eV B b)))) :
    SOr P B b L xs D aC p l e R s m args below meth c md d c0 s0 Q pc lsl stl h (.inl (pc', (lsl, st'), h)) := so_nx ⟨Nat.le_refl _, Nat.le_refl _⟩ fun _ _ kk H locs ls cells slots hH hS hl hc hs => k H locs ls cells slots hH hS hl (kk H locs ls cells slots hH hS hl hc hs)
/-- a local is written -/
theorem so_lo {lsl ls1 : mLS} {stl st' : mST} {h : mMH} {pc' : Nat} (k : ∀ (H : Heap) (locs : List Loc) (ls : Array Slot) (cells slots : Nat), lsR B b (dL md) lsl ls → (∀ ls' : Array Slot, lsR B b (dL md) ls1 ls' → W p l e R s m args below meth c H locs cells slots Q (F0 m pc' ls' (st'.map (eV B b)))) → W p l e R s m args below meth c H locs cells slots Q (F0 m pc ls (stl.map (eV B b)))) :
    SOr P B b L xs D aC p l e R s m args below meth c md d c0 s0 Q pc lsl stl h (.inl (pc', (ls1, st'), h)) := so_nx ⟨Nat.le_refl _, Nat.le_refl _⟩ fun _ _ kk H locs ls cells slots hH hS hl hc hs => k H locs ls cells slots hl (fun ls' hl' => kk H locs ls' cells slots hH hS hl' hc hs)
theorem i32 {x : Int} (h : inI x = true) : (Int32.ofInt x).toInt = x := by
  simp only [inI, Bool.and_eq_true, decide_eq_true_eq] at h
  exact Int32.toInt_ofInt_of_le (by omega) (by omega)
theorem i64 {x : Int} (h : inJ x = true) : (Int64.ofInt x).toInt = x := by
  simp only [inJ, Bool.and_eq_true, decide_eq_true_eq] at h
  exact Int64.toInt_ofInt_of_le (by omega) (by omega)
theorem i32_lt {x y : Int} (hx : inI x = true) (hy : inI y = true) : Int32.ofInt x < Int32.ofInt y ↔ x < y := by rw [Int32.lt_iff_toInt_lt, i32 hx, i32 hy]
theorem i32_le {x y : Int} (hx : inI x = true) (hy : inI y = true) : Int32.ofInt x ≤ Int32.ofInt y ↔ x ≤ y := by rw [Int32.le_iff_toInt_le, i32 hx, i32 hy]
theorem i32_eq {x y : Int} (hx : inI x = true) (hy : inI y = true) : Int32.ofInt x = Int32.ofInt y ↔ x = y := by rw [← Int32.toInt_inj, i32 hx, i32 hy]
theorem i64_lt {x y : Int} (hx : inJ x = true) (hy : inJ y = true) : Int64.ofInt x < Int64.ofInt y ↔ x < y := by rw [Int64.lt_iff_toInt_lt, i64 hx, i64 hy]
theorem i64_eq {x y : Int} (hx : inJ x = true) (hy : inJ y = true) : Int64.ofInt x = Int64.ofInt y ↔ x = y := by rw [← Int64.toInt_inj, i64 hx, i64 hy]
theorem inI_0 : inI 0 = true := by decide
end SOA
end
section
section SON
theorem m_fand (a b : Nat) : nI a &&& nI b = nI (a &&& b) := by
  apply Int32.toBitVec_inj.mp
  show (nI a).toBitVec &&& (nI b).toBitVec = _
  simp [nI, Int32.toBitVec_ofNat', BitVec.ofNat_and]
theorem m_for (a b : Nat) : nI a ||| nI b = nI (a ||| b) := by
  apply Int32.toBitVec_inj.mp
  show (nI a).toBitVec ||| (nI b).toBitVec = _
  simp [nI, Int32.toBitVec_ofNat', BitVec.ofNat_or]
theorem m_eq {x y : Int} (hx : inI x = true) (hy : inI y = true) : Int32.ofInt x = Int32.ofInt y ↔ mrel 0 x y = true := (i32_eq hx hy).trans (by simp [mrel])
theorem m_ne {x y : Int} (hx : inI x = true) (hy : inI y = true) : ¬ Int32.ofInt x = Int32.ofInt y ↔ mrel 1 x y = true := (not_congr (i32_eq hx hy)).trans (by simp [mrel])
theorem m_lt {x y : Int} (hx : inI x = true) (hy : inI y = true) : Int32.ofInt x < Int32.ofInt y ↔ mrel 2 x y = true := (i32_lt hx hy).trans (by simp [mrel])
theorem m_ge {x y : Int} (hx : inI x = true) (hy : inI y = true) : Int32.ofInt y ≤ Int32.ofInt x ↔ mrel 3 x y = true := (i32_le hy hx).trans (by simp [mrel])
theorem m_gt {x y : Int} (hx : inI x = true) (hy : inI y = true) : Int32.ofInt y < Int32.ofInt x ↔ mrel 4 x y = true := (i32_lt hy hx).trans (by simp [mrel])
theorem m_le {x y : Int} (hx : inI x = true) (hy : inI y = true) : Int32.ofInt x ≤ Int32.ofInt y ↔ mrel 5 x y = true := (i32_le hx hy).trans (by simp [mrel])
theorem m_bnd {x : Int} (hx : inI x = true) : -2147483648 ≤ x ∧ x < 2147483648 := by
  simp only [inI, Bool.and_eq_true, decide_eq_true_eq] at hx; exact hx
theorem m_bndJ {x : Int} (hx : inJ x = true) : -9223372036854775808 ≤ x ∧ x < 9223372036854775808 := by
  simp only [inJ, Bool.and_eq_true, decide_eq_true_eq] at hx; exact hx
theorem m_div {x y : Int} (hx : inI x = true) (hy : inI y = true) (h0 : 0 < y) : Int32.ofInt x / Int32.ofInt y = Int32.ofInt (x.tdiv y) := by
  have h1 := m_bnd hx
  have h2 := m_bnd hy
  exact (Int32.ofInt_tdiv (by show (-2147483648 : Int) ≤ x; omega) (by show x ≤ (2147483647 : Int); omega) (by show (-2147483648 : Int) ≤ y; omega) (by show y ≤ (2147483647 : Int); omega)).symm
theorem m_rem {x y : Int} (hx : inI x = true) (hy : inI y = true) (h0 : 0 < y) : Int32.ofInt x - Int32.ofInt x / Int32.ofInt y * Int32.ofInt y = Int32.ofInt (x.tmod y) := by
  rw [m_div hx hy h0, ← Int32.ofInt_mul, ← Int32.ofInt_sub]
  congr 1
  have := Int.mul_tdiv_add_tmod x y
  rw [Int.mul_comm] at this
  omega
theorem m_ldiv {x y : Int} (hx : inJ x = true) (hy : inJ y = true) (h0 : 0 < y) : Int64.ofInt x / Int64.ofInt y = Int64.ofInt (x.tdiv y) := by
  have h1 := m_bndJ hx
  have h2 := m_bndJ hy
  exact (Int64.ofInt_tdiv (by show (-9223372036854775808 : Int) ≤ x; omega) (by show x ≤ (9223372036854775807 : Int); omega) (by show (-9223372036854775808 : Int) ≤ y; omega) (by show y ≤ (9223372036854775807 : Int); omega)).symm
theorem m_cmp {x y : Int} (hx : inJ x = true) (hy : inJ y = true) : lg_cmp (Int64.ofInt x) (Int64.ofInt y) = Int32.ofInt (if x < y then -1 else if x = y then 0 else 1) := by
  unfold lg_cmp
  by_cases q : x < y
  · rw [if_pos q, if_neg (by rw [gt_iff_lt, i64_lt hy hx]; omega), if_neg (by rw [i64_eq hx hy]; omega)]; rfl
  · rw [if_neg q]
    by_cases z : x = y
    · rw [if_pos z, if_neg (by rw [gt_iff_lt, i64_lt hy hx]; omega), if_pos (by rw [i64_eq hx hy]; exact z)]; rfl
    · rw [if_neg z, if_pos (by rw [gt_iff_lt, i64_lt hy hx]; omega)]; rfl
theorem m_nI {x : Int} (h : 0 ≤ x) : Int32.ofInt x = nI x.toNat := by
  show Int32.ofInt x = Int32.ofNat x.toNat
  rw [← Int32.ofInt_eq_ofNat, Int.toNat_of_nonneg h]
theorem m_and {x y : Int} (hy : inI y = true) (hx : inI x = true) (h2 : 0 ≤ y) (h1 : 0 ≤ x) : Int32.ofInt x &&& Int32.ofInt y = Int32.ofInt ((x.toNat &&& y.toNat : Nat) : Int) := by
  rw [m_nI h1, m_nI h2, m_nI (Int.natCast_nonneg _), Int.toNat_natCast]
  exact m_fand _ _
theorem m_or {x y : Int} (hy : inI y = true) (hx : inI x = true) (h2 : 0 ≤ y) (h1 : 0 ≤ x) : Int32.ofInt x ||| Int32.ofInt y = Int32.ofInt ((x.toNat ||| y.toNat : Nat) : Int) := by
  rw [m_nI h1, m_nI h2, m_nI (Int.natCast_nonneg _), Int.toNat_natCast]
  exact m_for _ _
theorem m_bvn (x : Int) : (Int32.ofInt x).toBitVec.toNat = (x % 4294967296).toNat := by
  show (BitVec.ofInt 32 x).toNat = _
  rw [BitVec.toNat_ofInt]
  rfl
theorem m_15 {x : Int} : Int32.ofInt x &&& Int32.ofInt 15 = Int32.ofInt (x % 16) := by
  rw [pk_and (Int32.ofInt x) (m := Int32.ofInt 15) 4 (by decide +kernel), m_bvn, m_nI (by omega)]
  congr 1
  omega
theorem m_amt : ∀ n : Nat, n < 32 → ((Int32.ofInt (n : Int) &&& 31).toBitVec.smod 32).toNat = n := by decide +kernel
theorem m_shl {x y : Int} (h0 : 0 ≤ y) (h1 : y < 32) : Int32.ofInt x <<< (Int32.ofInt y &&& 31) = Int32.ofInt (x * 2 ^ y.toNat) := by
  obtain ⟨n, rfl⟩ := Int.eq_ofNat_of_zero_le h0
  have hn : n < 32 := by omega
  apply Int32.toBitVec_inj.mp
  apply BitVec.eq_of_toNat_eq
  rw [pk_shl _ _ n (m_amt n hn), m_bvn, m_bvn, Int.toNat_natCast]
  have e : ((2 : Int) ^ n) = ((2 ^ n : Nat) : Int) := by rw [Int.natCast_pow]; rfl
  rw [e]
  generalize 2 ^ n = t
  have h2 : ((x % 4294967296).toNat : Int) = x % 4294967296 := Int.toNat_of_nonneg (by omega)
  have h3 : (((x * (t : Int)) % 4294967296).toNat : Int) = (x * (t : Int)) % 4294967296 := Int.toNat_of_nonneg (by omega)
  apply Int.ofNat_inj.mp
  rw [h3]
  show (((x % 4294967296).toNat * t % 4294967296 : Nat) : Int) = _
  rw [Int.natCast_emod, Int.natCast_mul, h2]
  show (x % 4294967296 * (t : Int)) % 4294967296 = _
  rw [Int.mul_emod, Int.emod_emod_of_dvd _ (Int.dvd_refl _), ← Int.mul_emod]
theorem m_shr {x y : Int} (hx : inI x = true) (h0 : 0 ≤ y) (h1 : y < 32) : Int32.ofInt x >>> (Int32.ofInt y &&& 31) = Int32.ofInt (x / 2 ^ y.toNat) := by
  obtain ⟨n, rfl⟩ := Int.eq_ofNat_of_zero_le h0
  have hn : n < 32 := by omega
  apply Int32.toInt_inj.mp
  rw [pk_shr _ _ n (m_amt n hn), i32 hx, Int.toNat_natCast, Int.shiftRight_eq_div_pow]
  have h2 := m_bnd hx
  have h3 : (0 : Int) < 2 ^ n := Int.pow_pos (by omega)
  have h4 : inI (x / 2 ^ n) = true := by
    simp only [inI, Bool.and_eq_true, decide_eq_true_eq]
    rcases Int.le_total 0 x with q | q
    · have := Int.ediv_nonneg q (Int.le_of_lt h3)
      have := Int.ediv_le_self (2 ^ n) q
      omega
    · have h5 := Int.le_ediv_of_mul_le h3 (a := x) (b := x) (by
        have : x * 2 ^ n ≤ x * 1 := Int.mul_le_mul_of_nonpos_left q (by omega)
        omega)
      have h6 : x / 2 ^ n < 1 := Int.ediv_lt_of_lt_mul h3 (by omega)
      omega
  rw [show (((2 ^ n : Nat)) : Int) = (2 : Int) ^ n from by rw [Int.natCast_pow]; rfl]
  exact (i32 h4).symm
theorem m_i2l {x : Int} (hx : inI x = true) : (Int32.ofInt x).toInt64 = Int64.ofInt x := by
  have h := m_bnd hx
  apply Int64.toInt_inj.mp
  rw [Int32.toInt_toInt64, i32 hx, i64 (by simp only [inJ, Bool.and_eq_true, decide_eq_true_eq]; omega)]
theorem m_l2i (x : Int) : (Int64.ofInt x).toInt32 = Int32.ofInt x := by
  simp
theorem m_i2c (x : Int) : ((Int32.ofInt x).toUInt32 % 65536).toInt32 = Int32.ofInt (x % 65536) := by
  rw [pk_char, m_bvn, m_nI (by omega)]
  congr 1
  omega
end SON
/-! ===== the ops, one by one ===== -/
section SOB
variable {P : Nat → mMD} {B b L : Nat} {xs : Nat → Int32} {D : va_G} {aC : Nat → ClassId} {p : Program} {l : Launch} {e : Env} {R : Room} {s : State} {m : MethodId} {args : Array Value} {below : List Frame} {meth : Method} {c : Code} {md : mMD} {d c0 s0 : Nat} {Q : State → Prop} {pc : Nat}
theorem bq {α : Type} {c : Bool} {x : Option α} {r : α} (h : (bif c then x else none) = some r) : c = true ∧ x = some r := by
  cases c
  · cases h
  · exact ⟨rfl, h⟩
theorem b2 {a b : Bool} (h : (a && b) = true) : a = true ∧ b = true := by
  rw [Bool.and_eq_true] at h; exact h

theorem so_iconst {n : Int} (X : Cx B b L xs D aC p l R s m args meth c md d) (hd : decode (dB md) pc = .ok (.iconst n, 1)) : SO P B b L xs D aC p l e R s m args below meth c md d c0 s0 Q pc (mo_const (vI n) (pc + 1)) := by
  obtain ⟨hx, hb, hml, hown, hts, hlk, hst, hK, hG, hRm, htb, hnm⟩ := X
  intro lsl stl h r hf
  obtain rfl := Option.some.inj hf
  exact so_pu fun H locs ls cells slots hH hS hl kk => lv_iconst hx hb hd rfl kk

theorem so_bipush {n : Int} (X : Cx B b L xs D aC p l R s m args meth c md d) (hv : (Int8.ofInt n).toInt32 = Int32.ofInt n) (hd : decode (dB md) pc = .ok (.bipush n, 2)) : SO P B b L xs D aC p l e R s m args below meth c md d c0 s0 Q pc (mo_const (vI n) (pc + 2)) := by
  obtain ⟨hx, hb, hml, hown, hts, hlk, hst, hK, hG, hRm, htb, hnm⟩ := X
  intro lsl stl h r hf
  obtain rfl := Option.some.inj hf
  exact so_pu fun H locs ls cells slots hH hS hl kk => lv_bipush hx hb hd hv kk

theorem so_sipush {n : Int} (X : Cx B b L xs D aC p l R s m args meth c md d) (hv : (Int16.ofInt n).toInt32 = Int32.ofInt n) (hd : decode (dB md) pc = .ok (.sipush n, 3)) : SO P B b L xs D aC p l e R s m args below meth c md d c0 s0 Q pc (mo_const (vI n) (pc + 3)) := by
  obtain ⟨hx, hb, hml, hown, hts, hlk, hst, hK, hG, hRm, htb, hnm⟩ := X
  intro lsl stl h r hf
  obtain rfl := Option.some.inj hf
  exact so_pu fun H locs ls cells slots hH hS hl kk => lv_sipush hx hb hd hv kk

theorem so_lconst {n : Fin 2} (X : Cx B b L xs D aC p l R s m args meth c md d) (hd : decode (dB md) pc = .ok (.lconst n, 1)) : SO P B b L xs D aC p l e R s m args below meth c md d c0 s0 Q pc (mo_const (vJ ((n : Nat) : Int)) (pc + 1)) := by
  obtain ⟨hx, hb, hml, hown, hts, hlk, hst, hK, hG, hRm, htb, hnm⟩ := X
  intro lsl stl h r hf
  obtain rfl := Option.some.inj hf
  exact so_pu fun H locs ls cells slots hH hS hl kk => lv_lconst hx hb hd rfl kk

theorem so_ldc {n : Int} {i : Nat} (X : Cx B b L xs D aC p l R s m args meth c md d) (hw : Cond.constant (dY md).cls i (Int32.ofInt n) ∈ w_all) (hd : decode (dB md) pc = .ok (.ldc i, 2)) : SO P B b L xs D aC p l e R s m args below meth c md d c0 s0 Q pc (mo_const (vI n) (pc + 2)) := by
  obtain ⟨hx, hb, hml, hown, hts, hlk, hst, hK, hG, hRm, htb, hnm⟩ := X
  intro lsl stl h r hf
  obtain rfl := Option.some.inj hf
  exact so_pu fun H locs ls cells slots hH hS hl kk => lv_ldc hx hb hown (hts _ hw) hd kk

theorem so_ldc2 {n : Int} {i : Nat} (X : Cx B b L xs D aC p l R s m args meth c md d) (hw : Cond.constantLong (dY md).cls i (Int64.ofInt n) ∈ w_all) (hd : decode (dB md) pc = .ok (.ldc2_w i, 3)) : SO P B b L xs D aC p l e R s m args below meth c md d c0 s0 Q pc (mo_const (vJ n) (pc + 3)) := by
  obtain ⟨hx, hb, hml, hown, hts, hlk, hst, hK, hG, hRm, htb, hnm⟩ := X
  intro lsl stl h r hf
  obtain rfl := Option.some.inj hf
  exact so_pu fun H locs ls cells slots hH hS hl kk => lv_ldc2 hx hb hown (hts _ hw) hd kk

theorem so_iload_n {k : Fin 4} (X : Cx B b L xs D aC p l R s m args meth c md d) (hd : decode (dB md) pc = .ok (.iload_n k, 1)) : SO P B b L xs D aC p l e R s m args below meth c md d c0 s0 Q pc (mo_iload (k : Nat) (pc + 1)) := by
  obtain ⟨hx, hb, hml, hown, hts, hlk, hst, hK, hG, hRm, htb, hnm⟩ := X
  intro lsl stl h r hf
  unfold mo_iload at hf
  split at hf
  · rename_i x h1
    obtain rfl := Option.some.inj hf
    exact so_pu fun H locs ls cells slots hH hS hl kk => lv_iload_n hx hb hd rfl (hl.at h1) kk
  · cases hf

theorem so_iload {k : Nat} (X : Cx B b L xs D aC p l R s m args meth c md d) (hd : decode (dB md) pc = .ok (.iload k, 2)) : SO P B b L xs D aC p l e R s m args below meth c md d c0 s0 Q pc (mo_iload k (pc + 2)) := by
  obtain ⟨hx, hb, hml, hown, hts, hlk, hst, hK, hG, hRm, htb, hnm⟩ := X
  intro lsl stl h r hf
  unfold mo_iload at hf
  split at hf
  · rename_i x h1
    obtain rfl := Option.some.inj hf
    exact so_pu fun H locs ls cells slots hH hS hl kk => lv_iload hx hb hd (hl.at h1) kk
  · cases hf

theorem so_lload_n {k : Fin 4} (X : Cx B b L xs D aC p l R s m args meth c md d) (hd : decode (dB md) pc = .ok (.lload_n k, 1)) : SO P B b L xs D aC p l e R s m args below meth c md d c0 s0 Q pc (mo_lload (k : Nat) (pc + 1)) := by
  obtain ⟨hx, hb, hml, hown, hts, hlk, hst, hK, hG, hRm, htb, hnm⟩ := X
  intro lsl stl h r hf
  unfold mo_lload at hf
  split at hf
  · rename_i x h1
    obtain rfl := Option.some.inj hf
    exact so_pu fun H locs ls cells slots hH hS hl kk => lv_lload_n hx hb hd rfl (hl.at h1) kk
  · cases hf

theorem so_lload {k : Nat} (X : Cx B b L xs D aC p l R s m args meth c md d) (hd : decode (dB md) pc = .ok (.lload k, 2)) : SO P B b L xs D aC p l e R s m args below meth c md d c0 s0 Q pc (mo_lload k (pc + 2)) := by
  obtain ⟨hx, hb, hml, hown, hts, hlk, hst, hK, hG, hRm, htb, hnm⟩ := X
  intro lsl stl h r hf
  unfold mo_lload at hf
  split at hf
  · rename_i x h1
    obtain rfl := Option.some.inj hf
    exact so_pu fun H locs ls cells slots hH hS hl kk => lv_lload hx hb hd (hl.at h1) kk
  · cases hf

theorem so_aload_n {k : Fin 4} (X : Cx B b L xs D aC p l R s m args meth c md d) (hd : decode (dB md) pc = .ok (.aload_n k, 1)) : SO P B b L xs D aC p l e R s m args below meth c md d c0 s0 Q pc (mo_aload (k : Nat) (pc + 1)) := by
  obtain ⟨hx, hb, hml, hown, hts, hlk, hst, hK, hG, hRm, htb, hnm⟩ := X
  intro lsl stl h r hf
  unfold mo_aload at hf
  split at hf
  · rename_i x h1
    obtain rfl := Option.some.inj hf
    exact so_pu fun H locs ls cells slots hH hS hl kk => lv_aload_n hx hb hd rfl (hl.at h1) kk
  · cases hf

theorem so_aload {k : Nat} (X : Cx B b L xs D aC p l R s m args meth c md d) (hd : decode (dB md) pc = .ok (.aload k, 2)) : SO P B b L xs D aC p l e R s m args below meth c md d c0 s0 Q pc (mo_aload k (pc + 2)) := by
  obtain ⟨hx, hb, hml, hown, hts, hlk, hst, hK, hG, hRm, htb, hnm⟩ := X
  intro lsl stl h r hf
  unfold mo_aload at hf
  split at hf
  · rename_i x h1
    obtain rfl := Option.some.inj hf
    exact so_pu fun H locs ls cells slots hH hS hl kk => lv_aload hx hb hd (hl.at h1) kk
  · cases hf

theorem so_istore_n {k : Fin 4} (X : Cx B b L xs D aC p l R s m args meth c md d) (hd : decode (dB md) pc = .ok (.istore_n k, 1)) : SO P B b L xs D aC p l e R s m args below meth c md d c0 s0 Q pc (mo_istore (k : Nat) (pc + 1)) := by
  obtain ⟨hx, hb, hml, hown, hts, hlk, hst, hK, hG, hRm, htb, hnm⟩ := X
  intro lsl stl h r hf
  unfold mo_istore at hf
  split at hf
  · rename_i x r0
    obtain ⟨hc, hf⟩ := bq hf
    obtain rfl := Option.some.inj hf
    refine so_lo fun H locs ls cells slots hl kk => ?_
    obtain ⟨lv, h1, h2, h3⟩ := hl
    have hk : (k : Nat) < dL md := by rw [← h2]; exact Nat.ble_eq.mp hc
    exact lv_istore_n hx hb hd rfl h1 hk rfl (fun ls9 h9 => kk ls9 (lsR_st1 h2 hk h3 h9))
  · cases hf

theorem so_istore {k : Nat} (X : Cx B b L xs D aC p l R s m args meth c md d) (hd : decode (dB md) pc = .ok (.istore k, 2)) : SO P B b L xs D aC p l e R s m args below meth c md d c0 s0 Q pc (mo_istore k (pc + 2)) := by
  obtain ⟨hx, hb, hml, hown, hts, hlk, hst, hK, hG, hRm, htb, hnm⟩ := X
  intro lsl stl h r hf
  unfold mo_istore at hf
  split at hf
  · rename_i x r0
    obtain ⟨hc, hf⟩ := bq hf
    obtain rfl := Option.some.inj hf
    refine so_lo fun H locs ls cells slots hl kk => ?_
    obtain ⟨lv, h1, h2, h3⟩ := hl
    have hk : k < dL md := by rw [← h2]; exact Nat.ble_eq.mp hc
    exact lv_istore hx hb hd h1 hk rfl (fun ls9 h9 => kk ls9 (lsR_st1 h2 hk h3 h9))
  · cases hf

theorem so_astore_n {k : Fin 4} (X : Cx B b L xs D aC p l R s m args meth c md d) (hd : decode (dB md) pc = .ok (.astore_n k, 1)) : SO P B b L xs D aC p l e R s m args below meth c md d c0 s0 Q pc (mo_astore (k : Nat) (pc + 1)) := by
  obtain ⟨hx, hb, hml, hown, hts, hlk, hst, hK, hG, hRm, htb, hnm⟩ := X
  intro lsl stl h r hf
  unfold mo_astore at hf
  split at hf
  · rename_i x r0
    obtain ⟨hc, hf⟩ := bq hf
    obtain rfl := Option.some.inj hf
    refine so_lo fun H locs ls cells slots hl kk => ?_
    obtain ⟨lv, h1, h2, h3⟩ := hl
    have hk : (k : Nat) < dL md := by rw [← h2]; exact Nat.ble_eq.mp hc
    exact lv_astore_n hx hb hd rfl h1 hk rfl (fun ls9 h9 => kk ls9 (lsR_st1 h2 hk h3 h9))
  · cases hf

theorem so_astore {k : Nat} (X : Cx B b L xs D aC p l R s m args meth c md d) (hd : decode (dB md) pc = .ok (.astore k, 2)) : SO P B b L xs D aC p l e R s m args below meth c md d c0 s0 Q pc (mo_astore k (pc + 2)) := by
  obtain ⟨hx, hb, hml, hown, hts, hlk, hst, hK, hG, hRm, htb, hnm⟩ := X
  intro lsl stl h r hf
  unfold mo_astore at hf
  split at hf
  · rename_i x r0
    obtain ⟨hc, hf⟩ := bq hf
    obtain rfl := Option.some.inj hf
    refine so_lo fun H locs ls cells slots hl kk => ?_
    obtain ⟨lv, h1, h2, h3⟩ := hl
    have hk : k < dL md := by rw [← h2]; exact Nat.ble_eq.mp hc
    exact lv_astore hx hb hd h1 hk rfl (fun ls9 h9 => kk ls9 (lsR_st1 h2 hk h3 h9))
  · cases hf

theorem so_lstore_n {k : Fin 4} (X : Cx B b L xs D aC p l R s m args meth c md d) (hd : decode (dB md) pc = .ok (.lstore_n k, 1)) : SO P B b L xs D aC p l e R s m args below meth c md d c0 s0 Q pc (mo_lstore (k : Nat) (pc + 1)) := by
  obtain ⟨hx, hb, hml, hown, hts, hlk, hst, hK, hG, hRm, htb, hnm⟩ := X
  intro lsl stl h r hf
  unfold mo_lstore at hf
  split at hf
  · rename_i x r0
    obtain ⟨hc, hf⟩ := bq hf
    obtain rfl := Option.some.inj hf
    refine so_lo fun H locs ls cells slots hl kk => ?_
    obtain ⟨lv, h1, h2, h3⟩ := hl
    have hk : (k : Nat) + 1 < dL md := by rw [← h2]; exact Nat.ble_eq.mp hc
    exact lv_lstore_n hx hb hd rfl h1 hk rfl (fun ls9 h9 => kk ls9 (lsR_st2 h2 hk h3 h9))
  · cases hf

theorem so_lstore {k : Nat} (X : Cx B b L xs D aC p l R s m args meth c md d) (hd : decode (dB md) pc = .ok (.lstore k, 2)) : SO P B b L xs D aC p l e R s m args below meth c md d c0 s0 Q pc (mo_lstore k (pc + 2)) := by
  obtain ⟨hx, hb, hml, hown, hts, hlk, hst, hK, hG, hRm, htb, hnm⟩ := X
  intro lsl stl h r hf
  unfold mo_lstore at hf
  split at hf
  · rename_i x r0
    obtain ⟨hc, hf⟩ := bq hf
    obtain rfl := Option.some.inj hf
    refine so_lo fun H locs ls cells slots hl kk => ?_
    obtain ⟨lv, h1, h2, h3⟩ := hl
    have hk : k + 1 < dL md := by rw [← h2]; exact Nat.ble_eq.mp hc
    exact lv_lstore hx hb hd h1 hk rfl (fun ls9 h9 => kk ls9 (lsR_st2 h2 hk h3 h9))
  · cases hf

theorem so_iinc {k : Nat} {n : Int} (X : Cx B b L xs D aC p l R s m args meth c md d) (hd : decode (dB md) pc = .ok (.iinc k n, 3)) : SO P B b L xs D aC p l e R s m args below meth c md d c0 s0 Q pc (mo_iinc k n (pc + 3)) := by
  obtain ⟨hx, hb, hml, hown, hts, hlk, hst, hK, hG, hRm, htb, hnm⟩ := X
  intro lsl stl h r hf
  unfold mo_iinc at hf
  split at hf
  · rename_i x hx1
    obtain rfl := Option.some.inj hf
    refine so_lo fun H locs ls cells slots hl kk => ?_
    obtain ⟨lv, h1, h2, h3⟩ := hl
    have hk : k < dL md := by rw [← h2]; exact (List.getElem?_eq_some_iff.mp hx1).1
    obtain ⟨j, hj⟩ := List.getElem?_of_mem (h3 k _ hx1)
    exact lv_iinc hx hb hd h1 hj (Int32.ofInt_add x n).symm hk rfl (fun ls9 h9 => kk ls9 (lsR_st1 (v := vI (x + n)) h2 hk h3 h9))
  · cases hf

theorem so_iadd (X : Cx B b L xs D aC p l R s m args meth c md d) (hd : decode (dB md) pc = .ok (.iadd, 1)) : SO P B b L xs D aC p l e R s m args below meth c md d c0 s0 Q pc (mo_iadd (pc + 1)) := by
  obtain ⟨hx, hb, hml, hown, hts, hlk, hst, hK, hG, hRm, htb, hnm⟩ := X
  intro lsl stl h r hf
  unfold mo_iadd at hf
  split at hf
  · rename_i y x r0
    obtain rfl := Option.some.inj hf
    exact so_pu fun H locs ls cells slots hH hS hl kk => lv_iadd hx hb hd (by rw [← Int32.ofInt_add]; exact kk)
  · cases hf

theorem so_isub (X : Cx B b L xs D aC p l R s m args meth c md d) (hd : decode (dB md) pc = .ok (.isub, 1)) : SO P B b L xs D aC p l e R s m args below meth c md d c0 s0 Q pc (mo_isub (pc + 1)) := by
  obtain ⟨hx, hb, hml, hown, hts, hlk, hst, hK, hG, hRm, htb, hnm⟩ := X
  intro lsl stl h r hf
  unfold mo_isub at hf
  split at hf
  · rename_i y x r0
    obtain rfl := Option.some.inj hf
    exact so_pu fun H locs ls cells slots hH hS hl kk => lv_isub hx hb hd (by rw [← Int32.ofInt_sub]; exact kk)
  · cases hf

theorem so_imul (X : Cx B b L xs D aC p l R s m args meth c md d) (hd : decode (dB md) pc = .ok (.imul, 1)) : SO P B b L xs D aC p l e R s m args below meth c md d c0 s0 Q pc (mo_imul (pc + 1)) := by
  obtain ⟨hx, hb, hml, hown, hts, hlk, hst, hK, hG, hRm, htb, hnm⟩ := X
  intro lsl stl h r hf
  unfold mo_imul at hf
  split at hf
  · rename_i y x r0
    obtain rfl := Option.some.inj hf
    exact so_pu fun H locs ls cells slots hH hS hl kk => lv_imul hx hb hd (by rw [← Int32.ofInt_mul]; exact kk)
  · cases hf

theorem so_ladd (X : Cx B b L xs D aC p l R s m args meth c md d) (hd : decode (dB md) pc = .ok (.ladd, 1)) : SO P B b L xs D aC p l e R s m args below meth c md d c0 s0 Q pc (mo_ladd (pc + 1)) := by
  obtain ⟨hx, hb, hml, hown, hts, hlk, hst, hK, hG, hRm, htb, hnm⟩ := X
  intro lsl stl h r hf
  unfold mo_ladd at hf
  split at hf
  · rename_i y x r0
    obtain rfl := Option.some.inj hf
    exact so_pu fun H locs ls cells slots hH hS hl kk => lv_ladd hx hb hd (by rw [← Int64.ofInt_add]; exact kk)
  · cases hf

theorem so_lmul (X : Cx B b L xs D aC p l R s m args meth c md d) (hd : decode (dB md) pc = .ok (.lmul, 1)) : SO P B b L xs D aC p l e R s m args below meth c md d c0 s0 Q pc (mo_lmul (pc + 1)) := by
  obtain ⟨hx, hb, hml, hown, hts, hlk, hst, hK, hG, hRm, htb, hnm⟩ := X
  intro lsl stl h r hf
  unfold mo_lmul at hf
  split at hf
  · rename_i y x r0
    obtain rfl := Option.some.inj hf
    exact so_pu fun H locs ls cells slots hH hS hl kk => lv_lmul hx hb hd (by rw [← Int64.ofInt_mul]; exact kk)
  · cases hf

theorem so_idiv (X : Cx B b L xs D aC p l R s m args meth c md d) (hd : decode (dB md) pc = .ok (.idiv, 1)) : SO P B b L xs D aC p l e R s m args below meth c md d c0 s0 Q pc (mo_idiv (pc + 1)) := by
  obtain ⟨hx, hb, hml, hown, hts, hlk, hst, hK, hG, hRm, htb, hnm⟩ := X
  intro lsl stl h r hf
  unfold mo_idiv at hf
  split at hf
  · rename_i y x r0
    obtain ⟨hc, hf⟩ := bq hf
    obtain ⟨hc1, hc⟩ := b2 hc
    obtain ⟨hc2, hc3⟩ := b2 hc
    have hy : 0 < y := of_decide_eq_true hc3
    have hne : ¬ Int32.ofInt y = 0 := fun z => by
      have z2 := congrArg Int32.toInt z
      rw [i32 hc2, Int32.toInt_zero] at z2
      omega
    obtain rfl := Option.some.inj hf
    exact so_pu fun H locs ls cells slots hH hS hl kk => lv_idiv hx hb hd hne (by rw [m_div hc1 hc2 hy]; exact kk)
  · cases hf

theorem so_irem (X : Cx B b L xs D aC p l R s m args meth c md d) (hd : decode (dB md) pc = .ok (.irem, 1)) : SO P B b L xs D aC p l e R s m args below meth c md d c0 s0 Q pc (mo_irem (pc + 1)) := by
  obtain ⟨hx, hb, hml, hown, hts, hlk, hst, hK, hG, hRm, htb, hnm⟩ := X
  intro lsl stl h r hf
  unfold mo_irem at hf
  split at hf
  · rename_i y x r0
    obtain ⟨hc, hf⟩ := bq hf
    obtain ⟨hc1, hc⟩ := b2 hc
    obtain ⟨hc2, hc3⟩ := b2 hc
    have hy : 0 < y := of_decide_eq_true hc3
    have hne : ¬ Int32.ofInt y = 0 := fun z => by
      have z2 := congrArg Int32.toInt z
      rw [i32 hc2, Int32.toInt_zero] at z2
      omega
    obtain rfl := Option.some.inj hf
    exact so_pu fun H locs ls cells slots hH hS hl kk => lv_irem hx hb hd hne (by rw [m_rem hc1 hc2 hy]; exact kk)
  · cases hf

theorem so_ldiv (X : Cx B b L xs D aC p l R s m args meth c md d) (hd : decode (dB md) pc = .ok (.ldiv, 1)) : SO P B b L xs D aC p l e R s m args below meth c md d c0 s0 Q pc (mo_ldiv (pc + 1)) := by
  obtain ⟨hx, hb, hml, hown, hts, hlk, hst, hK, hG, hRm, htb, hnm⟩ := X
  intro lsl stl h r hf
  unfold mo_ldiv at hf
  split at hf
  · rename_i y x r0
    obtain ⟨hc, hf⟩ := bq hf
    obtain ⟨hc1, hc⟩ := b2 hc
    obtain ⟨hc2, hc3⟩ := b2 hc
    have hy : 0 < y := of_decide_eq_true hc3
    have hne : ¬ Int64.ofInt y = 0 := fun z => by
      have z2 := congrArg Int64.toInt z
      rw [i64 hc2, Int64.toInt_zero] at z2
      omega
    obtain rfl := Option.some.inj hf
    exact so_pu fun H locs ls cells slots hH hS hl kk => lv_ldiv hx hb hd hne (by rw [m_ldiv hc1 hc2 hy]; exact kk)
  · cases hf

theorem so_lcmp (X : Cx B b L xs D aC p l R s m args meth c md d) (hd : decode (dB md) pc = .ok (.lcmp, 1)) : SO P B b L xs D aC p l e R s m args below meth c md d c0 s0 Q pc (mo_lcmp (pc + 1)) := by
  obtain ⟨hx, hb, hml, hown, hts, hlk, hst, hK, hG, hRm, htb, hnm⟩ := X
  intro lsl stl h r hf
  unfold mo_lcmp at hf
  split at hf
  · rename_i y x r0
    obtain ⟨hc, hf⟩ := bq hf
    obtain ⟨hc1, hc2⟩ := b2 hc
    obtain rfl := Option.some.inj hf
    exact so_pu fun H locs ls cells slots hH hS hl kk => W.lcmp hx hb hd (by rw [m_cmp hc1 hc2]; exact kk)
  · cases hf

theorem so_ior (X : Cx B b L xs D aC p l R s m args meth c md d) (hd : decode (dB md) pc = .ok (.ior, 1)) : SO P B b L xs D aC p l e R s m args below meth c md d c0 s0 Q pc (mo_ior (pc + 1)) := by
  obtain ⟨hx, hb, hml, hown, hts, hlk, hst, hK, hG, hRm, htb, hnm⟩ := X
  intro lsl stl h r hf
  unfold mo_ior at hf
  split at hf
  · rename_i y x r0
    obtain ⟨hc, hf⟩ := bq hf
    obtain ⟨hc1, hc⟩ := b2 hc
    obtain ⟨hc2, hc⟩ := b2 hc
    obtain ⟨hc3, hc4⟩ := b2 hc
    obtain rfl := Option.some.inj hf
    exact so_pu fun H locs ls cells slots hH hS hl kk => lv_ior hx hb hd (by rw [m_or hc1 hc2 (of_decide_eq_true hc3) (of_decide_eq_true hc4)]; exact kk)
  · cases hf

theorem so_ishl (X : Cx B b L xs D aC p l R s m args meth c md d) (hd : decode (dB md) pc = .ok (.ishl, 1)) : SO P B b L xs D aC p l e R s m args below meth c md d c0 s0 Q pc (mo_ishl (pc + 1)) := by
  obtain ⟨hx, hb, hml, hown, hts, hlk, hst, hK, hG, hRm, htb, hnm⟩ := X
  intro lsl stl h r hf
  unfold mo_ishl at hf
  split at hf
  · rename_i y x r0
    obtain ⟨hc, hf⟩ := bq hf
    obtain ⟨hc1, hc2⟩ := b2 hc
    obtain rfl := Option.some.inj hf
    exact so_pu fun H locs ls cells slots hH hS hl kk => lv_ishl hx hb hd (by rw [m_shl (of_decide_eq_true hc1) (of_decide_eq_true hc2)]; exact kk)
  · cases hf

theorem so_ishr (X : Cx B b L xs D aC p l R s m args meth c md d) (hd : decode (dB md) pc = .ok (.ishr, 1)) : SO P B b L xs D aC p l e R s m args below meth c md d c0 s0 Q pc (mo_ishr (pc + 1)) := by
  obtain ⟨hx, hb, hml, hown, hts, hlk, hst, hK, hG, hRm, htb, hnm⟩ := X
  intro lsl stl h r hf
  unfold mo_ishr at hf
  split at hf
  · rename_i y x r0
    obtain ⟨hc, hf⟩ := bq hf
    obtain ⟨hc1, hc⟩ := b2 hc
    obtain ⟨hc2, hc3⟩ := b2 hc
    obtain rfl := Option.some.inj hf
    exact so_pu fun H locs ls cells slots hH hS hl kk => lv_ishr hx hb hd (by rw [m_shr hc1 (of_decide_eq_true hc2) (of_decide_eq_true hc3)]; exact kk)
  · cases hf

theorem so_iand (X : Cx B b L xs D aC p l R s m args meth c md d) (hd : decode (dB md) pc = .ok (.iand, 1)) : SO P B b L xs D aC p l e R s m args below meth c md d c0 s0 Q pc (mo_iand (pc + 1)) := by
  obtain ⟨hx, hb, hml, hown, hts, hlk, hst, hK, hG, hRm, htb, hnm⟩ := X
  intro lsl stl h r hf
  unfold mo_iand at hf
  split at hf
  · rename_i y x r0
    obtain ⟨hc, hf⟩ := bq hf
    obtain ⟨hc1, hc⟩ := b2 hc
    obtain ⟨hc2, hc3⟩ := b2 hc
    by_cases q : 0 ≤ x
    · rw [decide_eq_true q] at hf
      obtain rfl := Option.some.inj hf
      exact so_pu fun H locs ls cells slots hH hS hl kk => lv_iand hx hb hd (by rw [m_and hc1 hc2 (of_decide_eq_true hc3) q]; exact kk)
    · rw [decide_eq_false q] at hf
      obtain ⟨h15, hf⟩ := bq hf
      obtain rfl := Option.some.inj hf
      have h15 := of_decide_eq_true h15
      subst h15
      exact so_pu fun H locs ls cells slots hH hS hl kk => lv_iand hx hb hd (by rw [m_15]; exact kk)
  · cases hf

theorem so_i2l (X : Cx B b L xs D aC p l R s m args meth c md d) (hd : decode (dB md) pc = .ok (.i2l, 1)) : SO P B b L xs D aC p l e R s m args below meth c md d c0 s0 Q pc (mo_i2l (pc + 1)) := by
  obtain ⟨hx, hb, hml, hown, hts, hlk, hst, hK, hG, hRm, htb, hnm⟩ := X
  intro lsl stl h r hf
  unfold mo_i2l at hf
  split at hf
  · rename_i x r0
    obtain ⟨hc, hf⟩ := bq hf
    obtain rfl := Option.some.inj hf
    exact so_pu fun H locs ls cells slots hH hS hl kk => lv_i2l hx hb hd (m_i2l hc) kk
  · cases hf

theorem so_l2i (X : Cx B b L xs D aC p l R s m args meth c md d) (hd : decode (dB md) pc = .ok (.l2i, 1)) : SO P B b L xs D aC p l e R s m args below meth c md d c0 s0 Q pc (mo_l2i (pc + 1)) := by
  obtain ⟨hx, hb, hml, hown, hts, hlk, hst, hK, hG, hRm, htb, hnm⟩ := X
  intro lsl stl h r hf
  unfold mo_l2i at hf
  split at hf
  · rename_i x r0
    obtain rfl := Option.some.inj hf
    exact so_pu fun H locs ls cells slots hH hS hl kk => lv_l2i hx hb hd (m_l2i x) kk
  · cases hf

theorem so_i2c (X : Cx B b L xs D aC p l R s m args meth c md d) (hd : decode (dB md) pc = .ok (.i2c, 1)) : SO P B b L xs D aC p l e R s m args below meth c md d c0 s0 Q pc (mo_i2c (pc + 1)) := by
  obtain ⟨hx, hb, hml, hown, hts, hlk, hst, hK, hG, hRm, htb, hnm⟩ := X
  intro lsl stl h r hf
  unfold mo_i2c at hf
  split at hf
  · rename_i x r0
    obtain rfl := Option.some.inj hf
    exact so_pu fun H locs ls cells slots hH hS hl kk => lv_i2c hx hb hd (m_i2c x) kk
  · cases hf

theorem so_dup (X : Cx B b L xs D aC p l R s m args meth c md d) (hd : decode (dB md) pc = .ok (.dup, 1)) : SO P B b L xs D aC p l e R s m args below meth c md d c0 s0 Q pc (mo_dup (pc + 1)) := by
  obtain ⟨hx, hb, hml, hown, hts, hlk, hst, hK, hG, hRm, htb, hnm⟩ := X
  intro lsl stl h r hf
  unfold mo_dup at hf
  split at hf
  · rename_i v r0
    obtain ⟨hc, hf⟩ := bq hf
    obtain rfl := Option.some.inj hf
    exact so_pu fun H locs ls cells slots hH hS hl kk => lv_dup hx hb hd (by rw [cat_eV]; exact Nat.eq_of_beq_eq_true hc) kk
  · cases hf

theorem so_pop (X : Cx B b L xs D aC p l R s m args meth c md d) (hd : decode (dB md) pc = .ok (.pop, 1)) : SO P B b L xs D aC p l e R s m args below meth c md d c0 s0 Q pc (mo_pop (pc + 1)) := by
  obtain ⟨hx, hb, hml, hown, hts, hlk, hst, hK, hG, hRm, htb, hnm⟩ := X
  intro lsl stl h r hf
  unfold mo_pop at hf
  split at hf
  · rename_i v r0
    obtain ⟨hc, hf⟩ := bq hf
    obtain rfl := Option.some.inj hf
    exact so_pu fun H locs ls cells slots hH hS hl kk => lv_pop hx hb hd (by rw [cat_eV]; exact Nat.eq_of_beq_eq_true hc) kk
  · cases hf

theorem so_dup2 (X : Cx B b L xs D aC p l R s m args meth c md d) (hd : decode (dB md) pc = .ok (.dup2, 1)) : SO P B b L xs D aC p l e R s m args below meth c md d c0 s0 Q pc (mo_dup2 (pc + 1)) := by
  obtain ⟨hx, hb, hml, hown, hts, hlk, hst, hK, hG, hRm, htb, hnm⟩ := X
  intro lsl stl h r hf
  unfold mo_dup2 at hf
  split at hf
  · rename_i v w r0
    obtain ⟨hc, hf⟩ := bq hf
    obtain ⟨hc1, hc2⟩ := b2 hc
    obtain rfl := Option.some.inj hf
    exact so_pu fun H locs ls cells slots hH hS hl kk => lv_dup2_11 hx hb hd (by rw [cat_eV]; exact Nat.eq_of_beq_eq_true hc1) (by rw [cat_eV]; exact Nat.eq_of_beq_eq_true hc2) kk
  · cases hf

theorem so_dup2l (X : Cx B b L xs D aC p l R s m args meth c md d) (hd : decode (dB md) pc = .ok (.dup2, 1)) : SO P B b L xs D aC p l e R s m args below meth c md d c0 s0 Q pc (mo_dup2l (pc + 1)) := by
  obtain ⟨hx, hb, hml, hown, hts, hlk, hst, hK, hG, hRm, htb, hnm⟩ := X
  intro lsl stl h r hf
  unfold mo_dup2l at hf
  split at hf
  · rename_i x r0
    obtain rfl := Option.some.inj hf
    exact so_pu fun H locs ls cells slots hH hS hl kk => lv_dup2_2 hx hb hd rfl kk
  · cases hf

theorem so_icmp_eq {off : Int} {tgt : Nat} (X : Cx B b L xs D aC p l R s m args meth c md d) (hd : decode (dB md) pc = .ok (.if_icmp .eq off, 3)) (ht : (pc : Int) + off = (tgt : Int)) : SO P B b L xs D aC p l e R s m args below meth c md d c0 s0 Q pc (mo_icmp 0 tgt (pc + 3)) := by
  obtain ⟨hx, hb, hml, hown, hts, hlk, hst, hK, hG, hRm, htb, hnm⟩ := X
  intro lsl stl h r hf
  unfold mo_icmp at hf
  split at hf
  · rename_i y x r0
    obtain ⟨hc, hf⟩ := bq hf
    obtain ⟨hc1, hc2⟩ := b2 hc
    cases q : mrel 0 x y
    · rw [q] at hf
      obtain rfl := Option.some.inj hf
      exact so_pu fun H locs ls cells slots hH hS hl kk => lv_icmp_eq hx hb hd ht (fun z => absurd ((m_eq hc1 hc2).mp z) (by rw [q]; exact Bool.false_ne_true)) (fun _ => kk)
    · rw [q] at hf
      obtain rfl := Option.some.inj hf
      exact so_pu fun H locs ls cells slots hH hS hl kk => lv_icmp_eq hx hb hd ht (fun _ => kk) (fun z => absurd ((m_eq hc1 hc2).mpr q) (z))
  · cases hf

theorem so_if_eq {off : Int} {tgt : Nat} (X : Cx B b L xs D aC p l R s m args meth c md d) (hd : decode (dB md) pc = .ok (.ifCond .eq off, 3)) (ht : (pc : Int) + off = (tgt : Int)) : SO P B b L xs D aC p l e R s m args below meth c md d c0 s0 Q pc (mo_if 0 tgt (pc + 3)) := by
  obtain ⟨hx, hb, hml, hown, hts, hlk, hst, hK, hG, hRm, htb, hnm⟩ := X
  intro lsl stl h r hf
  unfold mo_if at hf
  split at hf
  · rename_i x r0
    obtain ⟨hc, hf⟩ := bq hf
    cases q : mrel 0 x 0
    · rw [q] at hf
      obtain rfl := Option.some.inj hf
      exact so_pu fun H locs ls cells slots hH hS hl kk => lv_if_eq hx hb hd ht (fun z => absurd ((m_eq hc inI_0).mp z) (by rw [q]; exact Bool.false_ne_true)) (fun _ => kk)
    · rw [q] at hf
      obtain rfl := Option.some.inj hf
      exact so_pu fun H locs ls cells slots hH hS hl kk => lv_if_eq hx hb hd ht (fun _ => kk) (fun z => absurd ((m_eq hc inI_0).mpr q) (z))
  · cases hf

theorem so_icmp_ne {off : Int} {tgt : Nat} (X : Cx B b L xs D aC p l R s m args meth c md d) (hd : decode (dB md) pc = .ok (.if_icmp .ne off, 3)) (ht : (pc : Int) + off = (tgt : Int)) : SO P B b L xs D aC p l e R s m args below meth c md d c0 s0 Q pc (mo_icmp 1 tgt (pc + 3)) := by
  obtain ⟨hx, hb, hml, hown, hts, hlk, hst, hK, hG, hRm, htb, hnm⟩ := X
  intro lsl stl h r hf
  unfold mo_icmp at hf
  split at hf
  · rename_i y x r0
    obtain ⟨hc, hf⟩ := bq hf
    obtain ⟨hc1, hc2⟩ := b2 hc
    cases q : mrel 1 x y
    · rw [q] at hf
      obtain rfl := Option.some.inj hf
      exact so_pu fun H locs ls cells slots hH hS hl kk => lv_icmp_ne hx hb hd ht (fun z => absurd ((m_ne hc1 hc2).mp z) (by rw [q]; exact Bool.false_ne_true)) (fun _ => kk)
    · rw [q] at hf
      obtain rfl := Option.some.inj hf
      exact so_pu fun H locs ls cells slots hH hS hl kk => lv_icmp_ne hx hb hd ht (fun _ => kk) (fun z => absurd ((m_ne hc1 hc2).mpr q) (fun w => w z))
  · cases hf

theorem so_if_ne {off : Int} {tgt : Nat} (X : Cx B b L xs D aC p l R s m args meth c md d) (hd : decode (dB md) pc = .ok (.ifCond .ne off, 3)) (ht : (pc : Int) + off = (tgt : Int)) : SO P B b L xs D aC p l e R s m args below meth c md d c0 s0 Q pc (mo_if 1 tgt (pc + 3)) := by
  obtain ⟨hx, hb, hml, hown, hts, hlk, hst, hK, hG, hRm, htb, hnm⟩ := X
  intro lsl stl h r hf
  unfold mo_if at hf
  split at hf
  · rename_i x r0
    obtain ⟨hc, hf⟩ := bq hf
    cases q : mrel 1 x 0
    · rw [q] at hf
      obtain rfl := Option.some.inj hf
      exact so_pu fun H locs ls cells slots hH hS hl kk => lv_if_ne hx hb hd ht (fun z => absurd ((m_ne hc inI_0).mp z) (by rw [q]; exact Bool.false_ne_true)) (fun _ => kk)
    · rw [q] at hf
      obtain rfl := Option.some.inj hf
      exact so_pu fun H locs ls cells slots hH hS hl kk => lv_if_ne hx hb hd ht (fun _ => kk) (fun z => absurd ((m_ne hc inI_0).mpr q) (fun w => w z))
  · cases hf

theorem so_icmp_lt {off : Int} {tgt : Nat} (X : Cx B b L xs D aC p l R s m args meth c md d) (hd : decode (dB md) pc = .ok (.if_icmp .lt off, 3)) (ht : (pc : Int) + off = (tgt : Int)) : SO P B b L xs D aC p l e R s m args below meth c md d c0 s0 Q pc (mo_icmp 2 tgt (pc + 3)) := by
  obtain ⟨hx, hb, hml, hown, hts, hlk, hst, hK, hG, hRm, htb, hnm⟩ := X
  intro lsl stl h r hf
  unfold mo_icmp at hf
  split at hf
  · rename_i y x r0
    obtain ⟨hc, hf⟩ := bq hf
    obtain ⟨hc1, hc2⟩ := b2 hc
    cases q : mrel 2 x y
    · rw [q] at hf
      obtain rfl := Option.some.inj hf
      exact so_pu fun H locs ls cells slots hH hS hl kk => lv_icmp_lt hx hb hd ht (fun z => absurd ((m_lt hc1 hc2).mp z) (by rw [q]; exact Bool.false_ne_true)) (fun _ => kk)
    · rw [q] at hf
      obtain rfl := Option.some.inj hf
      exact so_pu fun H locs ls cells slots hH hS hl kk => lv_icmp_lt hx hb hd ht (fun _ => kk) (fun z => absurd ((m_lt hc1 hc2).mpr q) (z))
  · cases hf

theorem so_if_lt {off : Int} {tgt : Nat} (X : Cx B b L xs D aC p l R s m args meth c md d) (hd : decode (dB md) pc = .ok (.ifCond .lt off, 3)) (ht : (pc : Int) + off = (tgt : Int)) : SO P B b L xs D aC p l e R s m args below meth c md d c0 s0 Q pc (mo_if 2 tgt (pc + 3)) := by
  obtain ⟨hx, hb, hml, hown, hts, hlk, hst, hK, hG, hRm, htb, hnm⟩ := X
  intro lsl stl h r hf
  unfold mo_if at hf
  split at hf
  · rename_i x r0
    obtain ⟨hc, hf⟩ := bq hf
    cases q : mrel 2 x 0
    · rw [q] at hf
      obtain rfl := Option.some.inj hf
      exact so_pu fun H locs ls cells slots hH hS hl kk => lv_if_lt hx hb hd ht (fun z => absurd ((m_lt hc inI_0).mp z) (by rw [q]; exact Bool.false_ne_true)) (fun _ => kk)
    · rw [q] at hf
      obtain rfl := Option.some.inj hf
      exact so_pu fun H locs ls cells slots hH hS hl kk => lv_if_lt hx hb hd ht (fun _ => kk) (fun z => absurd ((m_lt hc inI_0).mpr q) (z))
  · cases hf

theorem so_icmp_ge {off : Int} {tgt : Nat} (X : Cx B b L xs D aC p l R s m args meth c md d) (hd : decode (dB md) pc = .ok (.if_icmp .ge off, 3)) (ht : (pc : Int) + off = (tgt : Int)) : SO P B b L xs D aC p l e R s m args below meth c md d c0 s0 Q pc (mo_icmp 3 tgt (pc + 3)) := by
  obtain ⟨hx, hb, hml, hown, hts, hlk, hst, hK, hG, hRm, htb, hnm⟩ := X
  intro lsl stl h r hf
  unfold mo_icmp at hf
  split at hf
  · rename_i y x r0
    obtain ⟨hc, hf⟩ := bq hf
    obtain ⟨hc1, hc2⟩ := b2 hc
    cases q : mrel 3 x y
    · rw [q] at hf
      obtain rfl := Option.some.inj hf
      exact so_pu fun H locs ls cells slots hH hS hl kk => lv_icmp_ge hx hb hd ht (fun z => absurd ((m_ge hc1 hc2).mp z) (by rw [q]; exact Bool.false_ne_true)) (fun _ => kk)
    · rw [q] at hf
      obtain rfl := Option.some.inj hf
      exact so_pu fun H locs ls cells slots hH hS hl kk => lv_icmp_ge hx hb hd ht (fun _ => kk) (fun z => absurd ((m_ge hc1 hc2).mpr q) (z))
  · cases hf

theorem so_if_ge {off : Int} {tgt : Nat} (X : Cx B b L xs D aC p l R s m args meth c md d) (hd : decode (dB md) pc = .ok (.ifCond .ge off, 3)) (ht : (pc : Int) + off = (tgt : Int)) : SO P B b L xs D aC p l e R s m args below meth c md d c0 s0 Q pc (mo_if 3 tgt (pc + 3)) := by
  obtain ⟨hx, hb, hml, hown, hts, hlk, hst, hK, hG, hRm, htb, hnm⟩ := X
  intro lsl stl h r hf
  unfold mo_if at hf
  split at hf
  · rename_i x r0
    obtain ⟨hc, hf⟩ := bq hf
    cases q : mrel 3 x 0
    · rw [q] at hf
      obtain rfl := Option.some.inj hf
      exact so_pu fun H locs ls cells slots hH hS hl kk => lv_if_ge hx hb hd ht (fun z => absurd ((m_ge hc inI_0).mp z) (by rw [q]; exact Bool.false_ne_true)) (fun _ => kk)
    · rw [q] at hf
      obtain rfl := Option.some.inj hf
      exact so_pu fun H locs ls cells slots hH hS hl kk => lv_if_ge hx hb hd ht (fun _ => kk) (fun z => absurd ((m_ge hc inI_0).mpr q) (z))
  · cases hf

theorem so_icmp_gt {off : Int} {tgt : Nat} (X : Cx B b L xs D aC p l R s m args meth c md d) (hd : decode (dB md) pc = .ok (.if_icmp .gt off, 3)) (ht : (pc : Int) + off = (tgt : Int)) : SO P B b L xs D aC p l e R s m args below meth c md d c0 s0 Q pc (mo_icmp 4 tgt (pc + 3)) := by
  obtain ⟨hx, hb, hml, hown, hts, hlk, hst, hK, hG, hRm, htb, hnm⟩ := X
  intro lsl stl h r hf
  unfold mo_icmp at hf
  split at hf
  · rename_i y x r0
    obtain ⟨hc, hf⟩ := bq hf
    obtain ⟨hc1, hc2⟩ := b2 hc
    cases q : mrel 4 x y
    · rw [q] at hf
      obtain rfl := Option.some.inj hf
      exact so_pu fun H locs ls cells slots hH hS hl kk => lv_icmp_gt hx hb hd ht (fun z => absurd ((m_gt hc1 hc2).mp z) (by rw [q]; exact Bool.false_ne_true)) (fun _ => kk)
    · rw [q] at hf
      obtain rfl := Option.some.inj hf
      exact so_pu fun H locs ls cells slots hH hS hl kk => lv_icmp_gt hx hb hd ht (fun _ => kk) (fun z => absurd ((m_gt hc1 hc2).mpr q) (z))
  · cases hf

theorem so_if_gt {off : Int} {tgt : Nat} (X : Cx B b L xs D aC p l R s m args meth c md d) (hd : decode (dB md) pc = .ok (.ifCond .gt off, 3)) (ht : (pc : Int) + off = (tgt : Int)) : SO P B b L xs D aC p l e R s m args below meth c md d c0 s0 Q pc (mo_if 4 tgt (pc + 3)) := by
  obtain ⟨hx, hb, hml, hown, hts, hlk, hst, hK, hG, hRm, htb, hnm⟩ := X
  intro lsl stl h r hf
  unfold mo_if at hf
  split at hf
  · rename_i x r0
    obtain ⟨hc, hf⟩ := bq hf
    cases q : mrel 4 x 0
    · rw [q] at hf
      obtain rfl := Option.some.inj hf
      exact so_pu fun H locs ls cells slots hH hS hl kk => lv_if_gt hx hb hd ht (fun z => absurd ((m_gt hc inI_0).mp z) (by rw [q]; exact Bool.false_ne_true)) (fun _ => kk)
    · rw [q] at hf
      obtain rfl := Option.some.inj hf
      exact so_pu fun H locs ls cells slots hH hS hl kk => lv_if_gt hx hb hd ht (fun _ => kk) (fun z => absurd ((m_gt hc inI_0).mpr q) (z))
  · cases hf

theorem so_icmp_le {off : Int} {tgt : Nat} (X : Cx B b L xs D aC p l R s m args meth c md d) (hd : decode (dB md) pc = .ok (.if_icmp .le off, 3)) (ht : (pc : Int) + off = (tgt : Int)) : SO P B b L xs D aC p l e R s m args below meth c md d c0 s0 Q pc (mo_icmp 5 tgt (pc + 3)) := by
  obtain ⟨hx, hb, hml, hown, hts, hlk, hst, hK, hG, hRm, htb, hnm⟩ := X
  intro lsl stl h r hf
  unfold mo_icmp at hf
  split at hf
  · rename_i y x r0
    obtain ⟨hc, hf⟩ := bq hf
    obtain ⟨hc1, hc2⟩ := b2 hc
    cases q : mrel 5 x y
    · rw [q] at hf
      obtain rfl := Option.some.inj hf
      exact so_pu fun H locs ls cells slots hH hS hl kk => lv_icmp_le hx hb hd ht (fun z => absurd ((m_le hc1 hc2).mp z) (by rw [q]; exact Bool.false_ne_true)) (fun _ => kk)
    · rw [q] at hf
      obtain rfl := Option.some.inj hf
      exact so_pu fun H locs ls cells slots hH hS hl kk => lv_icmp_le hx hb hd ht (fun _ => kk) (fun z => absurd ((m_le hc1 hc2).mpr q) (z))
  · cases hf

theorem so_if_le {off : Int} {tgt : Nat} (X : Cx B b L xs D aC p l R s m args meth c md d) (hd : decode (dB md) pc = .ok (.ifCond .le off, 3)) (ht : (pc : Int) + off = (tgt : Int)) : SO P B b L xs D aC p l e R s m args below meth c md d c0 s0 Q pc (mo_if 5 tgt (pc + 3)) := by
  obtain ⟨hx, hb, hml, hown, hts, hlk, hst, hK, hG, hRm, htb, hnm⟩ := X
  intro lsl stl h r hf
  unfold mo_if at hf
  split at hf
  · rename_i x r0
    obtain ⟨hc, hf⟩ := bq hf
    cases q : mrel 5 x 0
    · rw [q] at hf
      obtain rfl := Option.some.inj hf
      exact so_pu fun H locs ls cells slots hH hS hl kk => lv_if_le hx hb hd ht (fun z => absurd ((m_le hc inI_0).mp z) (by rw [q]; exact Bool.false_ne_true)) (fun _ => kk)
    · rw [q] at hf
      obtain rfl := Option.some.inj hf
      exact so_pu fun H locs ls cells slots hH hS hl kk => lv_if_le hx hb hd ht (fun _ => kk) (fun z => absurd ((m_le hc inI_0).mpr q) (z))
  · cases hf

theorem so_goto {off : Int} {tgt : Nat} (X : Cx B b L xs D aC p l R s m args meth c md d) (hd : decode (dB md) pc = .ok (.goto off, 3)) (ht : (pc : Int) + off = (tgt : Int)) : SO P B b L xs D aC p l e R s m args below meth c md d c0 s0 Q pc (mo_goto tgt) := by
  obtain ⟨hx, hb, hml, hown, hts, hlk, hst, hK, hG, hRm, htb, hnm⟩ := X
  intro lsl stl h r hf
  obtain rfl := Option.some.inj hf
  exact so_pu fun H locs ls cells slots hH hS hl kk => lv_goto hx hb hd ht kk

theorem so_tsw {dflt hi : Int} {offs : Array Int} {len : Nat} {tgts : List Nat} (X : Cx B b L xs D aC p l R s m args meth c md d) (hd : decode (dB md) pc = .ok (.tableswitch dflt 0 hi offs, len)) (hlen : (tgts.length : Int) = hi + 1) (ho : offs = (tgts.map (fun (t : Nat) => (t : Int) - (pc : Int))).toArray) : SO P B b L xs D aC p l e R s m args below meth c md d c0 s0 Q pc (mo_tsw tgts) := by
  obtain ⟨hx, hb, hml, hown, hts, hlk, hst, hK, hG, hRm, htb, hnm⟩ := X
  intro lsl stl h r hf
  unfold mo_tsw at hf
  split at hf
  · rename_i x r0
    obtain ⟨hc, hf⟩ := bq hf
    obtain ⟨hc1, hc2⟩ := b2 hc
    have h0 : 0 ≤ x := of_decide_eq_true hc2
    split at hf
    · rename_i t0 ht0
      obtain rfl := Option.some.inj hf
      have hlt : x.toNat < tgts.length := (List.getElem?_eq_some_iff.mp ht0).1
      refine so_pu fun H locs ls cells slots hH hS hl kk => lv_tableIn (tgt := t0) (off := (t0 : Int) - (pc : Int)) hx hb hd (by rw [i32 hc1]; omega) (by rw [i32 hc1]; omega) ?_ (by omega) kk
      rw [i32 hc1, ho, Int.sub_zero]
      simp [ht0]
    · cases hf
  · cases hf

end SOB
end
section
/-! ===== the ops of the heap ===== -/
section SOH
variable {P : Nat → mMD} {B b L : Nat} {xs : Nat → Int32} {D : va_G} {aC : Nat → ClassId} {p : Program} {l : Launch} {e : Env} {R : Room} {s : State} {m : MethodId} {args : Array Value} {below : List Frame} {meth : Method} {c : Code} {md : mMD} {d c0 s0 : Nat} {Q : State → Prop} {pc : Nat}

theorem range_set {α : Type} {F F' : Nat → α} {N k : Nat} {v : α} (h1 : F' k = v) (h2 : ∀ j, j ≠ k → F' j = F j) : (List.range N).map F' = ((List.range N).map F).set k v := by
  apply List.ext_getElem?
  intro j
  by_cases q : k = j
  · subst q
    rw [List.getElem?_set_self', List.getElem?_map, List.getElem?_map]
    by_cases z : k < N
    · rw [List.getElem?_range z]; simp [h1]
    · rw [List.getElem?_eq_none (by simp; omega)]; rfl
  · rw [List.getElem?_set_ne q, List.getElem?_map, List.getElem?_map]
    by_cases z : j < N
    · rw [List.getElem?_range z]; simp [h2 j (fun w => q w.symm)]
    · rw [List.getElem?_eq_none (by simp; omega)]; rfl
theorem range_at {α : Type} {F : Nat → α} {N k : Nat} (h : k < N) : ((List.range N).map F)[k]? = some (F k) := by
  rw [List.getElem?_map, List.getElem?_range h]; rfl
theorem hr_0 {h : mMH} {H : Heap} (hH : HR B b D aC h H) {a cn : Nat} (hk : mK h a = (0, cn)) : adr B b a = B + a ∧ va_at D vwCl (adr B b a, .inr (cn, (List.range (nF cn)).map (fun j => eF B b (tyC cn j) (h.2 a j) (mR h a j)))) H := by
  obtain ⟨h1, -, h2⟩ := hr_live hH hk (by omega)
  have e1 : adr B b a = B + a := adr_pos h1.1
  rw [oe_0 hk] at h2
  rw [e1]
  exact ⟨rfl, h2⟩
theorem hr_a {h : mMH} {H : Heap} (hH : HR B b D aC h H) {a t : Nat} {i : Int} (hk : ka h a t i = true) (ht : t ≠ 9) : adr B b a = B + a ∧ va_at D vwCl (adr B b a, oe B b aC h a) H ∧ (mK h a).1 = t ∧ (mK h a).2 ≤ 1000 ∧ 0 ≤ i ∧ i.toNat < (mK h a).2 := by
  obtain ⟨k1, k2, k3⟩ := ka_k hk
  obtain ⟨h1, h3, h2⟩ := hr_live hH (a := a) (t := (mK h a).1) (x := (mK h a).2) rfl (by rw [k1]; exact ht)
  have e1 : adr B b a = B + a := adr_pos h1.1
  rw [e1]
  exact ⟨rfl, h2, k1, h3, k2, by omega⟩
theorem va_1 {D : va_G} {cl : List vw_C} {q : Nat × va_E} {H : Heap} (h : va_at D cl q H) : va_P D cl [q] H := fun k x hx => by
  match k, hx with
  | 0, hx => cases hx; exact h
  | k + 1, hx => simp at hx
theorem ix_cl {i : Int} {n : Nat} (h0 : 0 ≤ i) (h1 : i.toNat < n) (hn : n ≤ 1000) : (Int32.ofInt i).toNatClampNeg = i.toNat ∧ vp_in (Int32.ofInt i) n := by
  have hi : inI i = true := by simp only [inI, Bool.and_eq_true, decide_eq_true_eq]; omega
  have e : (Int32.ofInt i).toNatClampNeg = i.toNat := by
    show (Int32.ofInt i).toInt.toNat = _
    rw [i32 hi]
  refine ⟨e, fun q => ?_⟩
  rcases q with q | q
  · rw [Int32.lt_iff_toInt_lt, i32 hi, Int32.toInt_zero] at q; omega
  · rw [e] at q; omega
theorem ty_at (hK : va_K D vwCl (tysL aC) s) (t : Nat) (h1 : 1 ≤ t) (h7 : t ≤ 7) : (tysL aC)[t - 1]? = some (aC t, tyA t) := by
  match t, h1, h7 with
  | 1, _, _ => rfl
  | 2, _, _ => rfl
  | 3, _, _ => rfl
  | 4, _, _ => rfl
  | 5, _, _ => rfl
  | 6, _, _ => rfl
  | 7, _, _ => rfl

theorem so_getI {C : String} {T : u_T} {N cn k index : Nat} (X : Cx B b L xs D aC p l R s m args meth c md d) (hc : vwCl[cn]? = some (C, T, N)) (hk : k < N) (hw : Cond.fieldLink (dY md).cls index (T k).1 (T k).2.1 (T k).2.2.1 ∈ w_all) (hty : ∀ (x : Int) (r : Option Nat), eF B b (tyC cn k) x r = .int (Int32.ofInt x)) (hd : decode (dB md) pc = .ok (.getfield index, 3)) : SO P B b L xs D aC p l e R s m args below meth c md d c0 s0 Q pc (mo_getI cn k (pc + 3)) := by
  obtain ⟨hx, hb, hml, hown, hts, hlk, hst, hK, hG, hRm, htb, hnm⟩ := X
  intro lsl stl h r hf
  unfold mo_getI at hf
  split at hf
  · rename_i a r0
    obtain ⟨hq, hf⟩ := bq hf
    obtain rfl := Option.some.inj hf
    obtain ⟨k1, k2, k3, k4⟩ := cls_ok cn _ hc
    refine so_pu fun H locs ls cells slots hH hS hl kk => ?_
    obtain ⟨e1, h1⟩ := hr_0 hH (kq_k hq)
    exact va_get hx hb hts k1 hown hK (va_1 h1) 0 rfl hc k hk (hts _ hw) (fun _ h9 => h9) ((range_at (by rw [k4]; exact hk)).trans (congrArg some (hty _ _))) hd kk
  · cases hf

theorem so_getIN {C : String} {T : u_T} {N cn k index : Nat} {host : String} (X : Cx B b L xs D aC p l R s m args meth c md d) (hc : vwCl[cn]? = some (C, T, N)) (hk : k < N) (hw : Cond.fieldLinkNest (dY md).cls index (T k).1 (T k).2.1 (T k).2.2.1 host ∈ w_bad) (hty : ∀ (x : Int) (r : Option Nat), eF B b (tyC cn k) x r = .int (Int32.ofInt x)) (hd : decode (dB md) pc = .ok (.getfield index, 3)) : SO P B b L xs D aC p l e R s m args below meth c md d c0 s0 Q pc (mo_getI cn k (pc + 3)) := by
  obtain ⟨hx, hb, hml, hown, hts, hlk, hst, hK, hG, hRm, htb, hnm⟩ := X
  intro lsl stl h r hf
  unfold mo_getI at hf
  split at hf
  · rename_i a r0
    obtain ⟨hq, hf⟩ := bq hf
    obtain rfl := Option.some.inj hf
    obtain ⟨k1, k2, k3, k4⟩ := cls_ok cn _ hc
    refine so_pu fun H locs ls cells slots hH hS hl kk => ?_
    obtain ⟨e1, h1⟩ := hr_0 hH (kq_k hq)
    exact va_getN hx hb hts k1 hown hK (va_1 h1) 0 rfl hc k hk (va_Nw.use rfl (hG.2.2.2.2.2.1 _ hw)) (fun _ h9 => h9) ((range_at (by rw [k4]; exact hk)).trans (congrArg some (hty _ _))) hd kk
  · cases hf

theorem so_getJ {C : String} {T : u_T} {N cn k index : Nat} (X : Cx B b L xs D aC p l R s m args meth c md d) (hc : vwCl[cn]? = some (C, T, N)) (hk : k < N) (hw : Cond.fieldLink (dY md).cls index (T k).1 (T k).2.1 (T k).2.2.1 ∈ w_all) (hty : ∀ (x : Int) (r : Option Nat), eF B b (tyC cn k) x r = .long (Int64.ofInt x)) (hd : decode (dB md) pc = .ok (.getfield index, 3)) : SO P B b L xs D aC p l e R s m args below meth c md d c0 s0 Q pc (mo_getJ cn k (pc + 3)) := by
  obtain ⟨hx, hb, hml, hown, hts, hlk, hst, hK, hG, hRm, htb, hnm⟩ := X
  intro lsl stl h r hf
  unfold mo_getJ at hf
  split at hf
  · rename_i a r0
    obtain ⟨hq, hf⟩ := bq hf
    obtain rfl := Option.some.inj hf
    obtain ⟨k1, k2, k3, k4⟩ := cls_ok cn _ hc
    refine so_pu fun H locs ls cells slots hH hS hl kk => ?_
    obtain ⟨e1, h1⟩ := hr_0 hH (kq_k hq)
    exact va_get hx hb hts k1 hown hK (va_1 h1) 0 rfl hc k hk (hts _ hw) (fun _ h9 => h9) ((range_at (by rw [k4]; exact hk)).trans (congrArg some (hty _ _))) hd kk
  · cases hf

theorem so_getJN {C : String} {T : u_T} {N cn k index : Nat} {host : String} (X : Cx B b L xs D aC p l R s m args meth c md d) (hc : vwCl[cn]? = some (C, T, N)) (hk : k < N) (hw : Cond.fieldLinkNest (dY md).cls index (T k).1 (T k).2.1 (T k).2.2.1 host ∈ w_bad) (hty : ∀ (x : Int) (r : Option Nat), eF B b (tyC cn k) x r = .long (Int64.ofInt x)) (hd : decode (dB md) pc = .ok (.getfield index, 3)) : SO P B b L xs D aC p l e R s m args below meth c md d c0 s0 Q pc (mo_getJ cn k (pc + 3)) := by
  obtain ⟨hx, hb, hml, hown, hts, hlk, hst, hK, hG, hRm, htb, hnm⟩ := X
  intro lsl stl h r hf
  unfold mo_getJ at hf
  split at hf
  · rename_i a r0
    obtain ⟨hq, hf⟩ := bq hf
    obtain rfl := Option.some.inj hf
    obtain ⟨k1, k2, k3, k4⟩ := cls_ok cn _ hc
    refine so_pu fun H locs ls cells slots hH hS hl kk => ?_
    obtain ⟨e1, h1⟩ := hr_0 hH (kq_k hq)
    exact va_getN hx hb hts k1 hown hK (va_1 h1) 0 rfl hc k hk (va_Nw.use rfl (hG.2.2.2.2.2.1 _ hw)) (fun _ h9 => h9) ((range_at (by rw [k4]; exact hk)).trans (congrArg some (hty _ _))) hd kk
  · cases hf

theorem so_getR {C : String} {T : u_T} {N cn k index : Nat} (X : Cx B b L xs D aC p l R s m args meth c md d) (hc : vwCl[cn]? = some (C, T, N)) (hk : k < N) (hw : Cond.fieldLink (dY md).cls index (T k).1 (T k).2.1 (T k).2.2.1 ∈ w_all) (hty : ∀ (x : Int) (r : Option Nat), eF B b (tyC cn k) x r = eR B b r) (hd : decode (dB md) pc = .ok (.getfield index, 3)) : SO P B b L xs D aC p l e R s m args below meth c md d c0 s0 Q pc (mo_getR cn k (pc + 3)) := by
  obtain ⟨hx, hb, hml, hown, hts, hlk, hst, hK, hG, hRm, htb, hnm⟩ := X
  intro lsl stl h r hf
  unfold mo_getR at hf
  split at hf
  · rename_i a r0
    obtain ⟨hq, hf⟩ := bq hf
    obtain rfl := Option.some.inj hf
    obtain ⟨k1, k2, k3, k4⟩ := cls_ok cn _ hc
    refine so_pu fun H locs ls cells slots hH hS hl kk => ?_
    obtain ⟨e1, h1⟩ := hr_0 hH (kq_k hq)
    exact va_get hx hb hts k1 hown hK (va_1 h1) 0 rfl hc k hk (hts _ hw) (fun _ h9 => h9) ((range_at (by rw [k4]; exact hk)).trans (congrArg some (hty _ _))) hd kk
  · cases hf

theorem so_getRN {C : String} {T : u_T} {N cn k index : Nat} {host : String} (X : Cx B b L xs D aC p l R s m args meth c md d) (hc : vwCl[cn]? = some (C, T, N)) (hk : k < N) (hw : Cond.fieldLinkNest (dY md).cls index (T k).1 (T k).2.1 (T k).2.2.1 host ∈ w_bad) (hty : ∀ (x : Int) (r : Option Nat), eF B b (tyC cn k) x r = eR B b r) (hd : decode (dB md) pc = .ok (.getfield index, 3)) : SO P B b L xs D aC p l e R s m args below meth c md d c0 s0 Q pc (mo_getR cn k (pc + 3)) := by
  obtain ⟨hx, hb, hml, hown, hts, hlk, hst, hK, hG, hRm, htb, hnm⟩ := X
  intro lsl stl h r hf
  unfold mo_getR at hf
  split at hf
  · rename_i a r0
    obtain ⟨hq, hf⟩ := bq hf
    obtain rfl := Option.some.inj hf
    obtain ⟨k1, k2, k3, k4⟩ := cls_ok cn _ hc
    refine so_pu fun H locs ls cells slots hH hS hl kk => ?_
    obtain ⟨e1, h1⟩ := hr_0 hH (kq_k hq)
    exact va_getN hx hb hts k1 hown hK (va_1 h1) 0 rfl hc k hk (va_Nw.use rfl (hG.2.2.2.2.2.1 _ hw)) (fun _ h9 => h9) ((range_at (by rw [k4]; exact hk)).trans (congrArg some (hty _ _))) hd kk
  · cases hf

theorem va_put2 {cc : ByteArray} {C : String} {T : u_T} {N cn k index : Nat} {H : Heap} {locs : List Loc} {cells slots : Nat} {ls : Array Slot} {rest : List Value} {a : Nat} {fs : List Value} {v : Value} {Ts : List Cond} {ref own : String} (hexec : p.tables.exec = Jvm.exec) (hb : c.code = cc) (hts : ∀ w ∈ Ts, w.before args s = true) (hin : ∀ w ∈ u_ws C T N, w ∈ Ts) (ty0 : Nat → FieldType) (hty : ∀ k, k < N → parseFieldDescriptor (T k).2.2.1 = some (ty0 k)) (hnm : ∀ a, a < N → ∀ b, b < N → a ≠ b → (T a).2.1 ≠ (T b).2.1) (hown : s.vm.findClass own = some m.cls) {tys : List (ClassId × FieldType)} {cl : List vw_C} (hK : va_K D cl tys s) (he : va_at D cl (a, .inr (cn, fs)) H) (hc : cl[cn]? = some (C, T, N)) (hk : k < N)
    (hlink : (Cond.fieldLink own index ref (T k).2.1 (T k).2.2.1).before args s = true ∨ ∃ host, (Cond.fieldLinkNest own index ref (T k).2.1 (T k).2.2.1 host).before args s = true) (hsame : ∀ x, s.fieldFound? (T k).1 (T k).2.1 (T k).2.2.1 = some x → s.fieldFound? ref (T k).2.1 (T k).2.2.1 = some x) (hfin : (T k).2.2.2 = false) (hn : narrow (ty0 k) v = v) (hfit : fits (ty0 k) v = true) (hl : k < fs.length)
    (hdg : decode cc pc = .ok (.putfield index, 3)) (kk : ∀ (H1 : Heap) (i : Nat), va_at D cl (a, .inr (cn, fs.set k v)) H1 → H1.size = H.size → (∀ q : Nat, q ≠ a → H1[q]? = H[q]?) → W p l e R s m args below meth c H1 (locs ++ [⟨a, i⟩]) cells slots Q (F0 m (pc + 3) ls rest)) : W p l e R s m args below meth c H locs cells slots Q (F0 m pc ls (v :: .ref a :: rest)) := by
  have hap := va_apart (own := own) hts hin ty0 hty hnm hK hc
  obtain ⟨r, h1, cell, q1, q2, q3, q4⟩ := he
  have hr : r = (C, T, N) := Option.some.inj (h1.symm.trans hc)
  subst hr
  obtain ⟨hS, hfc, kC, hkC, hkind⟩ := hK.1 cn _ hc
  obtain ⟨cf, kf, fi, f, hi, hsl⟩ := hS k hk
  have hlay := hts _ (hin _ (u_in_lay hk))
  unfold u_lay at hlay
  rw [if_neg (by rw [hfin]; decide)] at hlay
  have hst := (u_facts hfc hkC (u_lays hts hin hk) hi).1
  have h6 := u_store hfc hkC hkind hlay hi (hty k hk) hn hfit
  rcases hlink with hlink | ⟨host, hlink⟩
  · refine W.putK hexec hb (f := f) ⟨hown, hlink, ⟨_, _, _, hsame _ hi⟩, hst⟩ (by rw [q2]; exact h6) q1 q3 (by rw [hsl]; exact k2_hasslot (q4 k hk)) rfl rfl hdg fun H' e1 e2 e3 => ?_
    rw [hsl] at e1 ⊢
    exact kk H' _ ⟨_, hc, t_OB.to (V := updV (vp_V fs) k v) ⟨_, e1, q2, q3, t_set q4 hap hk v⟩ (fun j _ => vp_updV_set hl v j)⟩ e2 e3
  · refine va_WputK hexec hb (f := f) hown hlink (hsame _ hi) hst (by rw [q2]; exact h6) q1 q3 (by rw [hsl]; exact k2_hasslot (q4 k hk)) rfl rfl hdg fun H' e1 e2 e3 => ?_
    rw [hsl] at e1 ⊢
    exact kk H' _ ⟨_, hc, t_OB.to (V := updV (vp_V fs) k v) ⟨_, e1, q2, q3, t_set q4 hap hk v⟩ (fun j _ => vp_updV_set hl v j)⟩ e2 e3
theorem va_put3 {cc : ByteArray} {C : String} {T : u_T} {N cn k index : Nat} {H : Heap} {locs : List Loc} {cells slots : Nat} {ls : Array Slot} {rest : List Value} {a : Nat} {fs : List Value} {v : Value} {Ts : List Cond} {ref own : String} (hexec : p.tables.exec = Jvm.exec) (hb : c.code = cc) (hts : ∀ w ∈ Ts, w.before args s = true) (hin : ∀ w ∈ u_ws C T N, w ∈ Ts) (ty0 : Nat → FieldType) (hty : ∀ k, k < N → parseFieldDescriptor (T k).2.2.1 = some (ty0 k)) (hnm : ∀ a, a < N → ∀ b, b < N → a ≠ b → (T a).2.1 ≠ (T b).2.1) (hown : s.vm.findClass own = some m.cls) {tys : List (ClassId × FieldType)} {cl : List vw_C} (hK : va_K D cl tys s) (he : va_at D cl (a, .inr (cn, fs)) H) (hc : cl[cn]? = some (C, T, N)) (hk : k < N)
    (hlink : (Cond.fieldLink own index ref (T k).2.1 (T k).2.2.1).before args s = true) (hsame : ∀ x, s.fieldFound? (T k).1 (T k).2.1 (T k).2.2.1 = some x → s.fieldFound? ref (T k).2.1 (T k).2.2.1 = some x) (hfin : (T k).2.2.2 = true) (hin2 : meth.name = "<init>") (hdecl : (T k).1 = own) (hn : narrow (ty0 k) v = v) (hfit : fits (ty0 k) v = true) (hl : k < fs.length)
    (hdg : decode cc pc = .ok (.putfield index, 3)) (kk : ∀ (H1 : Heap) (i : Nat), va_at D cl (a, .inr (cn, fs.set k v)) H1 → H1.size = H.size → (∀ q : Nat, q ≠ a → H1[q]? = H[q]?) → W p l e R s m args below meth c H1 (locs ++ [⟨a, i⟩]) cells slots Q (F0 m (pc + 3) ls rest)) : W p l e R s m args below meth c H locs cells slots Q (F0 m pc ls (v :: .ref a :: rest)) := by
  have hap := va_apart (own := own) hts hin ty0 hty hnm hK hc
  obtain ⟨r, h1, cell, q1, q2, q3, q4⟩ := he
  have hr : r = (C, T, N) := Option.some.inj (h1.symm.trans hc)
  subst hr
  obtain ⟨hS, hfc, kC, hkC, hkind⟩ := hK.1 cn _ hc
  obtain ⟨cf, kf, fi, f, hi, hsl⟩ := hS k hk
  have hlay := hts _ (hin _ (u_in_lay hk))
  unfold u_lay at hlay
  rw [if_pos hfin] at hlay
  have hst := (u_facts hfc hkC (u_lays hts hin hk) hi).1
  have hcf : m.cls = cf := by
    obtain ⟨_, _, c', _, _, _, -, -, hf', -, -, -, hown2, -⟩ := Cond.laysFinal_spec hlay
    have e1 : c' = cf := by have := hi.symm.trans hf'; simp at this; exact this.1.symm
    rw [hdecl] at hown2
    rw [← e1]; exact Option.some.inj (hown.symm.trans hown2)
  have h6 := u_fits hfc hkC hkind (Or.inr hlay) hi (hty k hk) hn hfit
  refine W.putFinK hexec hb hown hlink (hsame _ hi) hst hcf hin2 (by rw [q2]; exact h6) q1 q3 (by rw [hsl]; exact k2_hasslot (q4 k hk)) rfl rfl hdg fun H' e1 e2 e3 => ?_
  rw [hsl] at e1 ⊢
  exact kk H' _ ⟨_, hc, t_OB.to (V := updV (vp_V fs) k v) ⟨_, e1, q2, q3, t_set q4 hap hk v⟩ (fun j _ => vp_updV_set hl v j)⟩ e2 e3
theorem va_Sp {A : Nat → Prop} {H0 H H1 : Heap} {locs : List Loc} {a k : Nat} (h : va_S A H0 H locs) (z : H1.size = H.size) (oq : ∀ q : Nat, q ≠ a → H1[q]? = H[q]?) (ha : A a) : va_S A H0 H1 (locs ++ [⟨a, k⟩]) := h.put z oq ha
/-- a step that writes the cell a -/
theorem so_wr {lsl : mLS} {stl st' : mST} {h h' : mMH} {a : Nat} (h1 : h'.1.1 = h.1.1) (h2 : h'.1.2.1 = h.1.2.1) (hk : mK h' = mK h) (hm : ∀ k, k ≠ a → h'.2 k = h.2 k) (hr : ∀ k, k ≠ a → mR h' k = mR h k) (hlive : (mK h a).1 ≠ 9) {pc' : Nat}
    (k : ∀ (H : Heap) (locs : List Loc) (ls : Array Slot) (cells slots : Nat), HR B b D aC h H → adr B b a = B + a → (∀ (H1 : Heap) (i : Nat), va_at D vwCl (adr B b a, oe B b aC h' a) H1 → H1.size = H.size → (∀ q : Nat, q ≠ adr B b a → H1[q]? = H[q]?) → W p l e R s m args below meth c H1 (locs ++ [⟨adr B b a, i⟩]) cells slots Q (F0 m pc' ls (st'.map (eV B b)))) → W p l e R s m args below meth c H locs cells slots Q (F0 m pc ls (stl.map (eV B b)))) :
    SOr P B b L xs D aC p l e R s m args below meth c md d c0 s0 Q pc lsl stl h (.inl (pc', (lsl, st'), h')) := by
  have e2 : mC h' = mC h := by show h'.1.2.1.1 = h.1.2.1.1; rw [h2]
  have e3 : mSl h' = mSl h := by show h'.1.2.1.2 = h.1.2.1.2; rw [h2]
  refine so_nx ⟨by omega, by omega⟩ fun _ _ kk H locs ls cells slots hH hS hl hc hs => ?_
  have hl1 := (hH.2.1 a hlive).1.1
  have e1 : adr B b a = B + a := adr_pos hl1
  refine k H locs ls cells slots hH e1 fun H1 i hat hz ho => ?_
  rw [e1] at hat ho ⊢
  exact kk H1 _ ls cells slots (hr_put hH h1 hk hm hr hat hz ho) (va_Sp hS hz ho (by show B < B + a; omega)) hl (by omega) (by omega)

theorem so_putI {C : String} {T : u_T} {N cn k index : Nat} (X : Cx B b L xs D aC p l R s m args meth c md d) (hc : vwCl[cn]? = some (C, T, N)) (hk : k < N) (hw : Cond.fieldLink (dY md).cls index (T k).1 (T k).2.1 (T k).2.2.1 ∈ w_all ∨ ∃ host, Cond.fieldLinkNest (dY md).cls index (T k).1 (T k).2.1 (T k).2.2.1 host ∈ w_bad) (hfin : (T k).2.2.2 = false) (hty : tyC cn k = .int) (hd : decode (dB md) pc = .ok (.putfield index, 3)) : SO P B b L xs D aC p l e R s m args below meth c md d c0 s0 Q pc (mo_putI cn k (pc + 3)) := by
  obtain ⟨hx, hb, hml, hown, hts, hlk, hst, hK, hG, hRm, htb, hnm⟩ := X
  intro lsl stl h r hf
  unfold mo_putI at hf
  split at hf
  · rename_i x a r0
    obtain ⟨hq, hf⟩ := bq hf
    obtain rfl := Option.some.inj hf
    obtain ⟨k1, k2, k3, k4⟩ := cls_ok cn _ hc
    have hkq := kq_k hq
    refine so_wr (h := h) (h' := (h.1, up h.2 a k x)) (a := a) rfl rfl rfl (fun k9 q9 => by funext j; simp [up, q9]) (fun _ _ => rfl) (by rw [hkq]; exact (by decide : ¬ (0 : Nat) = 9)) fun H locs ls cells slots hH e1 kk => ?_
    obtain ⟨-, h1⟩ := hr_0 hH hkq
    refine va_put2 (k := k) hx hb hts k1 (tyC cn) k2 k3 hown hK h1 hc hk (hw.elim (fun w => Or.inl (hts _ w)) (fun ⟨host, w⟩ => Or.inr ⟨host, va_Nw.use rfl (hG.2.2.2.2.2.1 _ w)⟩)) (fun _ h9 => h9) hfin (by rw [hty]; rfl) (by rw [hty]; rfl) (by rw [List.length_map, List.length_range, k4]; exact hk) hd fun H1 i hat hz ho => kk H1 i ?_ hz ho
    rw [oe_0 (show mK (h.1, up h.2 a k x) a = (0, cn) from hkq)]
    rw [← range_set (F' := fun j => eF B b (tyC cn j) (up h.2 a k x a j) (mR h a j)) (by simp [up, hty, eF, eV]) (fun j hj => by simp [up, hj])] at hat
    exact hat
  · cases hf

theorem so_putZ {C : String} {T : u_T} {N cn k index : Nat} (X : Cx B b L xs D aC p l R s m args meth c md d) (hc : vwCl[cn]? = some (C, T, N)) (hk : k < N) (hw : Cond.fieldLink (dY md).cls index (T k).1 (T k).2.1 (T k).2.2.1 ∈ w_all ∨ ∃ host, Cond.fieldLinkNest (dY md).cls index (T k).1 (T k).2.1 (T k).2.2.1 host ∈ w_bad) (hfin : (T k).2.2.2 = false) (hty : tyC cn k = .boolean) (hd : decode (dB md) pc = .ok (.putfield index, 3)) : SO P B b L xs D aC p l e R s m args below meth c md d c0 s0 Q pc (mo_putZ cn k (pc + 3)) := by
  obtain ⟨hx, hb, hml, hown, hts, hlk, hst, hK, hG, hRm, htb, hnm⟩ := X
  intro lsl stl h r hf
  unfold mo_putZ at hf
  split at hf
  · rename_i x a r0
    obtain ⟨hq, hf⟩ := bq hf
    obtain rfl := Option.some.inj hf
    obtain ⟨hq, hz⟩ := b2 hq
    have hz : x = 0 ∨ x = 1 := by simpa using hz
    obtain ⟨k1, k2, k3, k4⟩ := cls_ok cn _ hc
    have hkq := kq_k hq
    refine so_wr (h := h) (h' := (h.1, up h.2 a k x)) (a := a) rfl rfl rfl (fun k9 q9 => by funext j; simp [up, q9]) (fun _ _ => rfl) (by rw [hkq]; exact (by decide : ¬ (0 : Nat) = 9)) fun H locs ls cells slots hH e1 kk => ?_
    obtain ⟨-, h1⟩ := hr_0 hH hkq
    refine va_put2 (k := k) hx hb hts k1 (tyC cn) k2 k3 hown hK h1 hc hk (hw.elim (fun w => Or.inl (hts _ w)) (fun ⟨host, w⟩ => Or.inr ⟨host, va_Nw.use rfl (hG.2.2.2.2.2.1 _ w)⟩)) (fun _ h9 => h9) hfin (by rw [hty]; rcases hz with rfl | rfl <;> rfl) (by rw [hty]; rcases hz with rfl | rfl <;> rfl) (by rw [List.length_map, List.length_range, k4]; exact hk) hd fun H1 i hat hz ho => kk H1 i ?_ hz ho
    rw [oe_0 (show mK (h.1, up h.2 a k x) a = (0, cn) from hkq)]
    rw [← range_set (F' := fun j => eF B b (tyC cn j) (up h.2 a k x a j) (mR h a j)) (by simp [up, hty, eF, eV]) (fun j hj => by simp [up, hj])] at hat
    exact hat
  · cases hf

theorem so_putJ {C : String} {T : u_T} {N cn k index : Nat} (X : Cx B b L xs D aC p l R s m args meth c md d) (hc : vwCl[cn]? = some (C, T, N)) (hk : k < N) (hw : Cond.fieldLink (dY md).cls index (T k).1 (T k).2.1 (T k).2.2.1 ∈ w_all ∨ ∃ host, Cond.fieldLinkNest (dY md).cls index (T k).1 (T k).2.1 (T k).2.2.1 host ∈ w_bad) (hfin : (T k).2.2.2 = false) (hty : tyC cn k = .long) (hd : decode (dB md) pc = .ok (.putfield index, 3)) : SO P B b L xs D aC p l e R s m args below meth c md d c0 s0 Q pc (mo_putJ cn k (pc + 3)) := by
  obtain ⟨hx, hb, hml, hown, hts, hlk, hst, hK, hG, hRm, htb, hnm⟩ := X
  intro lsl stl h r hf
  unfold mo_putJ at hf
  split at hf
  · rename_i x a r0
    obtain ⟨hq, hf⟩ := bq hf
    obtain rfl := Option.some.inj hf
    obtain ⟨k1, k2, k3, k4⟩ := cls_ok cn _ hc
    have hkq := kq_k hq
    refine so_wr (h := h) (h' := (h.1, up h.2 a k x)) (a := a) rfl rfl rfl (fun k9 q9 => by funext j; simp [up, q9]) (fun _ _ => rfl) (by rw [hkq]; exact (by decide : ¬ (0 : Nat) = 9)) fun H locs ls cells slots hH e1 kk => ?_
    obtain ⟨-, h1⟩ := hr_0 hH hkq
    refine va_put2 (k := k) hx hb hts k1 (tyC cn) k2 k3 hown hK h1 hc hk (hw.elim (fun w => Or.inl (hts _ w)) (fun ⟨host, w⟩ => Or.inr ⟨host, va_Nw.use rfl (hG.2.2.2.2.2.1 _ w)⟩)) (fun _ h9 => h9) hfin (by rw [hty]; rfl) (by rw [hty]; rfl) (by rw [List.length_map, List.length_range, k4]; exact hk) hd fun H1 i hat hz ho => kk H1 i ?_ hz ho
    rw [oe_0 (show mK (h.1, up h.2 a k x) a = (0, cn) from hkq)]
    rw [← range_set (F' := fun j => eF B b (tyC cn j) (up h.2 a k x a j) (mR h a j)) (by simp [up, hty, eF, eV]) (fun j hj => by simp [up, hj])] at hat
    exact hat
  · cases hf

theorem so_putR {C : String} {T : u_T} {N cn k index : Nat} (X : Cx B b L xs D aC p l R s m args meth c md d) (hc : vwCl[cn]? = some (C, T, N)) (hk : k < N) (hw : Cond.fieldLink (dY md).cls index (T k).1 (T k).2.1 (T k).2.2.1 ∈ w_all) (hfin : (T k).2.2.2 = true) (hini : (dY md).name = "<init>") (hdecl : (T k).1 = (dY md).cls) (hty : (∃ C, tyC cn k = .object C) ∨ ∃ t, tyC cn k = .array t) (hd : decode (dB md) pc = .ok (.putfield index, 3)) : SO P B b L xs D aC p l e R s m args below meth c md d c0 s0 Q pc (mo_putR cn k (pc + 3)) := by
  obtain ⟨hx, hb, hml, hown, hts, hlk, hst, hK, hG, hRm, htb, hnm⟩ := X
  intro lsl stl h r hf
  unfold mo_putR at hf
  split at hf
  · rename_i x a r0
    obtain ⟨hq, hf⟩ := bq hf
    obtain rfl := Option.some.inj hf
    obtain ⟨k1, k2, k3, k4⟩ := cls_ok cn _ hc
    have hkq := kq_k hq
    refine so_wr (h := h) (h' := ((h.1.1, h.1.2.1, mK h, upR (mR h) a k (some x)), h.2)) (a := a) rfl rfl rfl (fun _ _ => rfl) (fun k9 q9 => by funext j; show upR (mR h) a k (some x) k9 j = mR h k9 j; simp [upR, q9]) (by rw [hkq]; exact (by decide : ¬ (0 : Nat) = 9)) fun H locs ls cells slots hH e1 kk => ?_
    obtain ⟨-, h1⟩ := hr_0 hH hkq
    refine va_put3 (k := k) hx hb hts k1 (tyC cn) k2 k3 hown hK h1 hc hk (hts _ hw) (fun _ h9 => h9) hfin (hnm.trans hini) hdecl (by rcases hty with ⟨C, h9⟩ | ⟨t, h9⟩ <;> rw [h9] <;> rfl) (by rcases hty with ⟨C, h9⟩ | ⟨t, h9⟩ <;> rw [h9] <;> rfl) (by rw [List.length_map, List.length_range, k4]; exact hk) hd fun H1 i hat hz ho => kk H1 i ?_ hz ho
    rw [oe_0 (show mK (((h.1.1, h.1.2.1, mK h, upR (mR h) a k (some x)), h.2) : mMH) a = (0, cn) from hkq)]
    rw [← range_set (F' := fun j => eF B b (tyC cn j) (h.2 a j) (upR (mR h) a k (some x) a j)) (by rcases hty with ⟨C, h9⟩ | ⟨t, h9⟩ <;> simp [upR, h9, eF, eV]) (fun j hj => by simp [upR, hj])] at hat
    exact hat
  · cases hf

theorem so_iald (X : Cx B b L xs D aC p l R s m args meth c md d) (hd : decode (dB md) pc = .ok (.iaload, 1)) : SO P B b L xs D aC p l e R s m args below meth c md d c0 s0 Q pc (mo_iald (pc + 1)) := by
  obtain ⟨hx, hb, hml, hown, hts, hlk, hst, hK, hG, hRm, htb, hnm⟩ := X
  intro lsl stl h r hf
  unfold mo_iald at hf
  split at hf
  · rename_i i a r0
    obtain ⟨hq, hf⟩ := bq hf
    obtain rfl := Option.some.inj hf
    refine so_pu fun H locs ls cells slots hH hS hl kk => ?_
    obtain ⟨e1, h1, h2, h3, h4, h5⟩ := hr_a hH hq (by decide)
    rw [oe_1 h2] at h1
    obtain ⟨c1, c2⟩ := ix_cl h4 h5 h3
    exact va_iald hx hb hK (va_1 h1) 0 0 rfl rfl c2 hd (by rw [c1]; exact kk)
  · cases hf

theorem so_lald (X : Cx B b L xs D aC p l R s m args meth c md d) (hd : decode (dB md) pc = .ok (.laload, 1)) : SO P B b L xs D aC p l e R s m args below meth c md d c0 s0 Q pc (mo_lald (pc + 1)) := by
  obtain ⟨hx, hb, hml, hown, hts, hlk, hst, hK, hG, hRm, htb, hnm⟩ := X
  intro lsl stl h r hf
  unfold mo_lald at hf
  split at hf
  · rename_i i a r0
    obtain ⟨hq, hf⟩ := bq hf
    obtain rfl := Option.some.inj hf
    refine so_pu fun H locs ls cells slots hH hS hl kk => ?_
    obtain ⟨e1, h1, h2, h3, h4, h5⟩ := hr_a hH hq (by decide)
    rw [oe_2 h2] at h1
    obtain ⟨c1, c2⟩ := ix_cl h4 h5 h3
    exact va_lald hx hb hK (va_1 h1) 0 1 rfl rfl c2 hd (by rw [c1]; exact kk)
  · cases hf

theorem so_zald (X : Cx B b L xs D aC p l R s m args meth c md d) (hd : decode (dB md) pc = .ok (.baload, 1)) : SO P B b L xs D aC p l e R s m args below meth c md d c0 s0 Q pc (mo_zald (pc + 1)) := by
  obtain ⟨hx, hb, hml, hown, hts, hlk, hst, hK, hG, hRm, htb, hnm⟩ := X
  intro lsl stl h r hf
  unfold mo_zald at hf
  split at hf
  · rename_i i a r0
    obtain ⟨hq, hf⟩ := bq hf
    obtain rfl := Option.some.inj hf
    refine so_pu fun H locs ls cells slots hH hS hl kk => ?_
    obtain ⟨e1, h1, h2, h3, h4, h5⟩ := hr_a hH hq (by decide)
    rw [oe_3 h2] at h1
    obtain ⟨c1, c2⟩ := ix_cl h4 h5 h3
    exact va_zald hx hb hK (va_1 h1) 0 2 rfl rfl c2 hd (by rw [c1]; exact kk)
  · cases hf

theorem so_aald {t : Nat} (X : Cx B b L xs D aC p l R s m args meth c md d) (h4 : 4 ≤ t) (h7 : t ≤ 7) (hd : decode (dB md) pc = .ok (.aaload, 1)) : SO P B b L xs D aC p l e R s m args below meth c md d c0 s0 Q pc (mo_aald t (pc + 1)) := by
  obtain ⟨hx, hb, hml, hown, hts, hlk, hst, hK, hG, hRm, htb, hnm⟩ := X
  intro lsl stl h r hf
  unfold mo_aald at hf
  split at hf
  · rename_i i a r0
    obtain ⟨hq, hf⟩ := bq hf
    obtain rfl := Option.some.inj hf
    refine so_pu fun H locs ls cells slots hH hS hl kk => ?_
    obtain ⟨e1, h1, h2, h3, h4', h5⟩ := hr_a hH hq (by omega)
    rw [oe_4 h2 h4] at h1
    obtain ⟨c1, c2⟩ := ix_cl h4' h5 h3
    have hty : (tyA t).isReference = true := by
      match t, h4, h7 with
      | 4, _, _ => rfl
      | 5, _, _ => rfl
      | 6, _, _ => rfl
      | 7, _, _ => rfl
    exact W.aald (v := va_rf ((mR h a i.toNat).map (adr B b))) (ty := tyA t) hx hb h1 ((hK.2 (t - 1) _ (ty_at hK t (by omega) h7)).1 _ (fun j => va_rf ((mR h a j).map (adr B b)))) hty (fun q => by cases q) (by show ¬ (_ ∨ (arrV _ _ _).slots.size ≤ _); rw [arrV_size]; exact c2) (by show (arrV _ _ _).slots[_]? = _; rw [c1, arrV_read _ _ h5]) rfl rfl hd kk
  · cases hf
theorem so_alen {t : Nat} (X : Cx B b L xs D aC p l R s m args meth c md d) (h1 : 1 ≤ t) (h7 : t ≤ 2) (hd : decode (dB md) pc = .ok (.arraylength, 1)) : SO P B b L xs D aC p l e R s m args below meth c md d c0 s0 Q pc (mo_alen t (pc + 1)) := by
  obtain ⟨hx, hb, hml, hown, hts, hlk, hst, hK, hG, hRm, htb, hnm⟩ := X
  intro lsl stl h r hf
  unfold mo_alen at hf
  split at hf
  · rename_i a r0
    obtain ⟨hq, hf⟩ := bq hf
    obtain rfl := Option.some.inj hf
    have hq := Nat.eq_of_beq_eq_true hq
    refine so_pu fun H locs ls cells slots hH hS hl kk => ?_
    obtain ⟨g1, g3, g2⟩ := hr_live hH (a := a) (t := (mK h a).1) (x := (mK h a).2) rfl (by rw [hq]; omega)
    have e1 : adr B b a = B + a := adr_pos g1.1
    rw [← e1] at g2
    have hsz : ∀ n : Nat, n ≤ 1000 → n.toInt32 = Int32.ofInt (n : Int) := fun n _ => rfl
    match t, h1, h7, hq with
    | 1, _, _, hq =>
      rw [oe_1 hq] at g2
      exact W.alen hx hb g2 ((hK.2 0 _ rfl).1 _ (fun j => .int (Int32.ofInt (h.2 a j)))) (by show (arrV _ _ _).slots.size.toInt32 = _; rw [arrV_size]; exact hsz _ g3) rfl rfl hd kk
    | 2, _, _, hq =>
      rw [oe_2 hq] at g2
      exact W.alen hx hb g2 ((hK.2 1 _ rfl).1 _ (fun j => .long (Int64.ofInt (h.2 a j)))) (by show (arrV _ _ _).slots.size.toInt32 = _; rw [arrV_size]; exact hsz _ g3) rfl rfl hd kk
  · cases hf
theorem so_slen (X : Cx B b L xs D aC p l R s m args meth c md d) (hd : decode (dB md) pc = .ok (.arraylength, 1)) : SO P B b L xs D aC p l e R s m args below meth c md d c0 s0 Q pc (mo_slen L (pc + 1)) := by
  obtain ⟨hx, hb, hml, hown, hts, hlk, hst, hK, hG, hRm, htb, hnm⟩ := X
  intro lsl stl h r hf
  unfold mo_slen at hf
  split at hf
  · rename_i r0
    obtain rfl := Option.some.inj hf
    refine so_pu fun H locs ls cells slots hH hS hl kk => ?_
    exact va_slen hx hb hG.2.1 (Nat.lt_of_le_of_lt hG.1.2 hG.1.1) (Nat.not_lt.mpr hG.1.2) hS hd kk
  · cases hf
theorem so_sld (X : Cx B b L xs D aC p l R s m args meth c md d) (hL : L ≤ 1536) (hd : decode (dB md) pc = .ok (.iaload, 1)) : SO P B b L xs D aC p l e R s m args below meth c md d c0 s0 Q pc (mo_sld L xs (pc + 1)) := by
  obtain ⟨hx, hb, hml, hown, hts, hlk, hst, hK, hG, hRm, htb, hnm⟩ := X
  intro lsl stl h r hf
  unfold mo_sld at hf
  split at hf
  · rename_i i r0
    obtain ⟨hq, hf⟩ := bq hf
    obtain rfl := Option.some.inj hf
    obtain ⟨q1, q2⟩ := b2 hq
    have q1 := of_decide_eq_true q1
    have q2 := of_decide_eq_true q2
    have hi : inI i = true := by simp only [inI, Bool.and_eq_true, decide_eq_true_eq]; omega
    have c1 : (Int32.ofInt i).toNatClampNeg = i.toNat := by
      show (Int32.ofInt i).toInt.toNat = _
      rw [i32 hi]
    have c2 : vp_in (Int32.ofInt i) L := by
      intro q
      rcases q with q | q
      · rw [Int32.lt_iff_toInt_lt, i32 hi, Int32.toInt_zero] at q; omega
      · rw [c1] at q; omega
    refine so_pu fun H locs ls cells slots hH hS hl kk => ?_
    exact va_sld hx hb hG.2.1 (Nat.lt_of_le_of_lt hG.1.2 hG.1.1) (Nat.not_lt.mpr hG.1.2) hS c2 hd (by rw [c1, ← Int32.ofInt_toInt (xs i.toNat)]; exact kk)
  · cases hf

theorem so_iast (X : Cx B b L xs D aC p l R s m args meth c md d) (hd : decode (dB md) pc = .ok (.iastore, 1)) : SO P B b L xs D aC p l e R s m args below meth c md d c0 s0 Q pc (mo_iast (pc + 1)) := by
  obtain ⟨hx, hb, hml, hown, hts, hlk, hst, hK, hG, hRm, htb, hnm⟩ := X
  intro lsl stl h r hf
  unfold mo_iast at hf
  split at hf
  · rename_i x i a r0
    obtain ⟨hq, hf⟩ := bq hf
    obtain rfl := Option.some.inj hf
    have hk1 := (ka_k hq).1
    refine so_wr (h := h) (h' := (h.1, up h.2 a i.toNat x)) (a := a) rfl rfl rfl (fun k9 q9 => by funext j; simp [up, q9]) (fun _ _ => rfl) (by rw [hk1]; decide) fun H locs ls cells slots hH e1 kk => ?_
    obtain ⟨-, h1, h2, h3, h4, h5⟩ := hr_a hH hq (by decide)
    rw [oe_1 h2] at h1
    obtain ⟨c1, c2⟩ := ix_cl h4 h5 h3
    refine W.iast hx hb h1 ((hK.2 0 _ rfl).1 _ (fun j => .int (Int32.ofInt (h.2 a j)))) (fun q => by cases q) (by show ¬ (_ ∨ (arrV _ _ _).slots.size ≤ _); rw [arrV_size]; exact c2) rfl rfl hd fun H1 e z oq => kk H1 _ ?_ z oq
    rw [oe_1 (show (mK (h.1, up h.2 a i.toNat x) a).1 = 1 from h2)]
    show H1[_]? = some (vp_cell _ _)
    rw [e, vp_cell_i, vp_cell_i, arrV_store, c1]
    congr 2
    funext q
    by_cases hq : q = i.toNat
    · subst hq; simp [updV, up]
    · simp [updV, up, hq]
  · cases hf

theorem so_last (X : Cx B b L xs D aC p l R s m args meth c md d) (hd : decode (dB md) pc = .ok (.lastore, 1)) : SO P B b L xs D aC p l e R s m args below meth c md d c0 s0 Q pc (mo_last (pc + 1)) := by
  obtain ⟨hx, hb, hml, hown, hts, hlk, hst, hK, hG, hRm, htb, hnm⟩ := X
  intro lsl stl h r hf
  unfold mo_last at hf
  split at hf
  · rename_i x i a r0
    obtain ⟨hq, hf⟩ := bq hf
    obtain rfl := Option.some.inj hf
    have hk1 := (ka_k hq).1
    refine so_wr (h := h) (h' := (h.1, up h.2 a i.toNat x)) (a := a) rfl rfl rfl (fun k9 q9 => by funext j; simp [up, q9]) (fun _ _ => rfl) (by rw [hk1]; decide) fun H locs ls cells slots hH e1 kk => ?_
    obtain ⟨-, h1, h2, h3, h4, h5⟩ := hr_a hH hq (by decide)
    rw [oe_2 h2] at h1
    obtain ⟨c1, c2⟩ := ix_cl h4 h5 h3
    refine W.last hx hb h1 ((hK.2 1 _ rfl).1 _ (fun j => .long (Int64.ofInt (h.2 a j)))) (fun q => by cases q) (by show ¬ (_ ∨ (arrV _ _ _).slots.size ≤ _); rw [arrV_size]; exact c2) rfl rfl hd fun H1 e z oq => kk H1 _ ?_ z oq
    rw [oe_2 (show (mK (h.1, up h.2 a i.toNat x) a).1 = 2 from h2)]
    show H1[_]? = some (vp_cell _ _)
    rw [e, vp_cell_l, vp_cell_l, arrV_store, c1]
    congr 2
    funext q
    by_cases hq : q = i.toNat
    · subst hq; simp [updV, up]
    · simp [updV, up, hq]
  · cases hf

theorem so_zast (X : Cx B b L xs D aC p l R s m args meth c md d) (hd : decode (dB md) pc = .ok (.bastore, 1)) : SO P B b L xs D aC p l e R s m args below meth c md d c0 s0 Q pc (mo_zast (pc + 1)) := by
  obtain ⟨hx, hb, hml, hown, hts, hlk, hst, hK, hG, hRm, htb, hnm⟩ := X
  intro lsl stl h r hf
  unfold mo_zast at hf
  split at hf
  · rename_i x i a r0
    obtain ⟨hq, hf⟩ := bq hf
    obtain rfl := Option.some.inj hf
    obtain ⟨hq, hz⟩ := b2 hq
    have hz : x = 0 ∨ x = 1 := by simpa using hz
    have hnz : narrow .boolean (.int (Int32.ofInt x)) = .int (Int32.ofInt x) := by rcases hz with rfl | rfl <;> rfl
    have hk1 := (ka_k hq).1
    refine so_wr (h := h) (h' := (h.1, up h.2 a i.toNat x)) (a := a) rfl rfl rfl (fun k9 q9 => by funext j; simp [up, q9]) (fun _ _ => rfl) (by rw [hk1]; decide) fun H locs ls cells slots hH e1 kk => ?_
    obtain ⟨-, h1, h2, h3, h4, h5⟩ := hr_a hH hq (by decide)
    rw [oe_3 h2] at h1
    obtain ⟨c1, c2⟩ := ix_cl h4 h5 h3
    refine W.zast hx hb h1 ((hK.2 2 _ rfl).1 _ (fun j => .int (Int32.ofInt (h.2 a j)))) (fun q => by cases q) (by show ¬ (_ ∨ (arrV _ _ _).slots.size ≤ _); rw [arrV_size]; exact c2) rfl rfl hd fun H1 e z oq => kk H1 _ ?_ z oq
    rw [hnz] at e
    rw [oe_3 (show (mK (h.1, up h.2 a i.toNat x) a).1 = 3 from h2)]
    show H1[_]? = some (vp_cell _ _)
    rw [e, vp_cell_i, vp_cell_i, arrV_store, c1]
    congr 2
    funext q
    by_cases hq : q = i.toNat
    · subst hq; simp [updV, up]
    · simp [updV, up, hq]
  · cases hf

theorem so_aast {t cn : Nat} {q : vw_C} (X : Cx B b L xs D aC p l R s m args meth c md d) (ht : t = 6 ∨ t = 7) (hc : vwCl[cn]? = some q) (htc : tyA t = .object q.1) (hd : decode (dB md) pc = .ok (.aastore, 1)) : SO P B b L xs D aC p l e R s m args below meth c md d c0 s0 Q pc (mo_aast t cn (pc + 1)) := by
  obtain ⟨hx, hb, hml, hown, hts, hlk, hst, hK, hG, hRm, htb, hnm⟩ := X
  intro lsl stl h r hf
  unfold mo_aast at hf
  split at hf
  · rename_i v i a r0
    obtain ⟨hq, hf⟩ := bq hf
    obtain rfl := Option.some.inj hf
    obtain ⟨hq, hv⟩ := b2 hq
    have hk1 := (ka_k hq).1
    refine so_wr (h := h) (h' := ((h.1.1, h.1.2.1, mK h, upR (mR h) a i.toNat (some v)), h.2)) (a := a) rfl rfl rfl (fun _ _ => rfl) (fun k9 q9 => by funext j; show upR (mR h) a i.toNat (some v) k9 j = mR h k9 j; simp [upR, q9]) (by rw [hk1]; omega) fun H locs ls cells slots hH e1 kk => ?_
    obtain ⟨-, h1, h2, h3, h4, h5⟩ := hr_a hH hq (by omega)
    rw [oe_4 h2 (by omega)] at h1
    obtain ⟨c1, c2⟩ := ix_cl h4 h5 h3
    obtain ⟨e3, r', hr', cellV, g1, g2, g3, -⟩ := hr_0 hH (kq_k hv)
    have hcls := (hK.1 cn q hc).2
    have hRA := (hK.2 (t - 1) _ (ty_at hK t (by omega) (by omega))).2
    rw [htc] at hRA
    obtain ⟨kA, comp, k1, k2, k3, -⟩ := hRA
    have hcomp : comp = D.1 cn := Option.some.inj (k3.symm.trans hcls.1)
    subst hcomp
    obtain ⟨kC, hkC, -⟩ := hcls.2
    refine W.aast hx hb h1 (fun q h => by cases h) (fun h => by cases h) k1 k2 rfl hkC ⟨fun z => c2 (Or.inl z), by show _ < (arrV _ _ _).slots.size; rw [arrV_size, c1]; exact h5⟩ g1 (fun q h => by rw [g3] at h; cases h) (by rw [g2]; exact hkC) (by rw [g2]; exact va_assign hcls) rfl rfl hd fun H1 e z oq => kk H1 _ ?_ z oq
    rw [oe_4 (show (mK (((h.1.1, h.1.2.1, mK h, upR (mR h) a i.toNat (some v)), h.2) : mMH) a).1 = t from h2) (by omega)]
    show H1[_]? = some (vp_cell _ _)
    rw [e, vp_cell_q, vp_cell_q, arrV_store, c1]
    congr 2
    funext q
    show _ = va_rf (Option.map (adr B b) (upR (mR h) a i.toNat (some v) a q))
    by_cases hq : q = i.toNat
    · subst hq; simp [updV, upR, va_rf]
    · simp [updV, upR, hq]
  · cases hf
end SOH
end
section
/-! ===== what is made ===== -/
section SOM
variable {P : Nat → mMD} {B b L : Nat} {xs : Nat → Int32} {D : va_G} {aC : Nat → ClassId} {p : Program} {l : Launch} {e : Env} {R : Room} {s : State} {m : MethodId} {args : Array Value} {below : List Frame} {meth : Method} {c : Code} {md : mMD} {d c0 s0 : Nat} {Q : State → Prop} {pc : Nat}

theorem nb_eq (n : Nat) : Nat.beq n n = true := Nat.beq_refl n
theorem nb_ne {a n : Nat} (h : a ≠ n) : Nat.beq a n = false := by
  cases q : Nat.beq a n with
  | false => rfl
  | true => exact absurd (Nat.eq_of_beq_eq_true q) h
theorem blt_t {a n : Nat} (h : a < n) : Nat.blt a n = true := Nat.ble_eq.mpr h
theorem blt_f {a n : Nat} (h : n ≤ a) : Nat.blt a n = false := by
  cases q : Nat.blt a n with
  | false => rfl
  | true => exact absurd (Nat.ble_eq.mp q) (by omega)
theorem hr_new {h : mMH} {H H1 : Heap} {k : Nat × Nat} {sl : Nat} (hH : HR B b D aC h H) (hT : mT h = true) (hk : k.2 ≤ 1000) (hz : H1.size = H.size + 1) (ho : ∀ q : Nat, q < H.size → H1[q]? = H[q]?) (hat : va_at D vwCl (H.size, oe B b aC (alloc h k sl) (mN h)) H1) : HR B b D aC (alloc h k sl) H1 := by
  obtain ⟨⟨z1, z2, z3⟩, k1, c1⟩ := hH
  have e0 := z1 hT
  refine ⟨⟨fun _ => by show H1.size = B + (mN h + 1); omega, by show B + (mN h + 1) ≤ H1.size; omega, by show 1 ≤ mN h + 1; omega⟩, fun j hj => ?_, fun j hj => ?_⟩
  · by_cases q : j = mN h
    · subst q
      refine ⟨⟨z3, by show mN h < mN h + 1; omega⟩, ?_⟩
      show (bif Nat.beq (mN h) (mN h) then k else mK h (mN h)).2 ≤ 1000
      rw [nb_eq]; exact hk
    · have e : mK (alloc h k sl) j = mK h j := by show (bif Nat.beq j (mN h) then k else mK h j) = _; rw [nb_ne q]; rfl
      rw [e] at hj ⊢
      have := k1 j hj
      exact ⟨⟨this.1.1, by show j < mN h + 1; omega⟩, this.2⟩
  · by_cases q : j = mN h
    · subst q
      rw [← e0]; exact hat
    · have e : mK (alloc h k sl) j = mK h j := by show (bif Nat.beq j (mN h) then k else mK h j) = _; rw [nb_ne q]; rfl
      have e2 : oe B b aC (alloc h k sl) j = oe B b aC h j := by
        have f1 : (alloc h k sl).2 j = h.2 j := by funext i; show (bif Nat.beq j (mN h) then 0 else h.2 j i) = _; rw [nb_ne q]; rfl
        have f2 : mR (alloc h k sl) j = mR h j := by funext i; show (bif Nat.beq j (mN h) then none else mR h j i) = _; rw [nb_ne q]; rfl
        unfold oe; rw [e, f1, f2]
      rw [e] at hj
      rw [e2]
      have := k1 j hj
      exact (c1 j hj).kept (ho _ (by show B + j < H.size; omega))
theorem al_K {h : mMH} {k : Nat × Nat} {sl : Nat} : mK (alloc h k sl) (mN h) = k := by
  show (bif Nat.beq (mN h) (mN h) then k else mK h (mN h)) = k
  rw [nb_eq]; rfl
theorem al_M {h : mMH} {k : Nat × Nat} {sl : Nat} (j : Nat) : (alloc h k sl).2 (mN h) j = 0 := by
  show (bif Nat.beq (mN h) (mN h) then 0 else h.2 (mN h) j) = 0
  rw [nb_eq]; rfl
theorem al_R {h : mMH} {k : Nat × Nat} {sl : Nat} (j : Nat) : mR (alloc h k sl) (mN h) j = none := by
  show (bif Nat.beq (mN h) (mN h) then none else mR h (mN h) j) = none
  rw [nb_eq]; rfl
theorem ty_df : ∀ cn, cn < 10 → ∀ j, j < 22 → tyC cn j ≠ .float ∧ tyC cn j ≠ .double := by decide +kernel
theorem ef_0 {ty : FieldType} (h1 : ty ≠ .float) (h2 : ty ≠ .double) : defaultValue ty = eF B b ty 0 none := by
  cases ty with
  | float => exact absurd rfl h1
  | double => exact absurd rfl h2
  | _ => rfl
theorem cl_lt {cn : Nat} {q : vw_C} (h : vwCl[cn]? = some q) : cn < 10 := (List.getElem?_eq_some_iff.mp h).1
theorem cl_nF : ∀ cn, cn < 10 → nF cn ≤ 22 := by decide +kernel
theorem va_Sn {A : Nat → Prop} {H0 H H1 : Heap} {locs : List Loc} (hS : va_S A H0 H locs) (hz : H.size ≤ H1.size) (ho : ∀ q : Nat, q < H.size → H1[q]? = H[q]?) : va_S A H0 H1 locs := ⟨Nat.le_trans hS.1 hz, fun x h1 h2 => (ho x (Nat.lt_of_lt_of_le h1 hS.1)).trans (hS.2.1 x h1 h2), hS.2.2⟩
theorem hr_ad {h : mMH} {H : Heap} (hH : HR B b D aC h H) (hT : mT h = true) : Value.ref H.size = eV B b (vR (some (mN h))) := by
  show Value.ref H.size = Value.ref (adr B b (mN h))
  rw [adr_pos hH.1.2.2, hH.1.1 hT]
theorem so_new {C : String} {T : u_T} {N cn index : Nat} (X : Cx B b L xs D aC p l R s m args meth c md d) (hc : vwCl[cn]? = some (C, T, N)) (hw1 : Cond.classLink (dY md).cls index C ∈ w_all) (hw2 : Cond.instantiable C N ∈ w_all) (hw3 : Cond.initialized C ∈ w_all) (hd : decode (dB md) pc = .ok (.new index, 3)) : SO P B b L xs D aC p l e R s m args below meth c md d c0 s0 Q pc (mo_new cn N (pc + 3)) := by
  obtain ⟨hx, hb, hml, hown, hts, hlk, hst, hK, hG, hRm, htb, hnm⟩ := X
  intro lsl stl h r hf
  unfold mo_new at hf
  obtain ⟨hT, hf⟩ := bq hf
  obtain rfl := Option.some.inj hf
  obtain ⟨k1, k2, k3, k4⟩ := cls_ok cn _ hc
  refine so_nx ⟨Nat.le_succ _, Nat.le_add_right _ _⟩ fun g1 g2 kk H locs ls cells slots hH hS hl hc0 hs0 => ?_
  have g1 : mC h + 1 ≤ c0 + R.cells := g1
  have g2 : mSl h + N ≤ s0 + R.slots := g2
  have hKn := hK.1 cn _ hc
  refine W.newcK hx hb hown (hts _ hw1) (hts _ hw2) (hts _ hw3) rfl hd (by omega) (by omega) hKn.2.1 rfl fun H1 kC hkC e1 z1 o1 => ?_
  have hfs : va_at D vwCl (H.size, oe B b aC (alloc h (0, cn) N) (mN h)) H1 := by
    rw [oe_0 al_K]
    refine ⟨_, hc, (u_born (tyC cn) hts k1 hKn hkC e1 k2).to fun j hj => ?_⟩
    have hn := cl_nF cn (cl_lt hc)
    have hj' : j < nF cn := by rw [k4]; exact hj
    have ht := ty_df cn (cl_lt hc) j (by omega)
    show _ = List.getD (List.map _ _) j Value.null
    rw [List.getD_eq_getElem?_getD, range_at hj', ef_0 (B := B) (b := b) ht.1 ht.2, al_M, al_R]
    rfl
  have hR := hr_new (sl := N) hH hT (by have := cl_lt hc; show cn ≤ 1000; omega) z1 o1 hfs
  have := kk H1 locs ls (cells + 1) (slots + N) hR (va_Sn hS (by omega) o1) hl (by show _ = mC h + 1; omega) (by show _ = mSl h + N; omega)
  rw [hr_ad hH hT]
  exact this

theorem so_newa_i (X : Cx B b L xs D aC p l R s m args meth c md d) (hw : Cond.arrayClass .int ∈ w_all) (hd : decode (dB md) pc = .ok (.newarray .int, 2)) : SO P B b L xs D aC p l e R s m args below meth c md d c0 s0 Q pc (mo_newa 1 (pc + 2)) := by
  obtain ⟨hx, hb, hml, hown, hts, hlk, hst, hK, hG, hRm, htb, hnm⟩ := X
  intro lsl stl h r hf
  unfold mo_newa at hf
  split at hf
  · rename_i n r0
    obtain ⟨hq, hf⟩ := bq hf
    obtain rfl := Option.some.inj hf
    obtain ⟨hT, hq⟩ := b2 hq
    obtain ⟨q1, q2⟩ := b2 hq
    have q1 := of_decide_eq_true q1
    have q2 := of_decide_eq_true q2
    have hi : inI n = true := by simp only [inI, Bool.and_eq_true, decide_eq_true_eq]; omega
    refine so_nx ⟨Nat.le_succ _, Nat.le_add_right _ _⟩ fun g1 g2 kk H locs ls cells slots hH hS hl hc0 hs0 => ?_
    have g1 : mC h + 1 ≤ c0 + R.cells := g1
    have g2 : mSl h + n.toNat ≤ s0 + R.slots := g2
    have hn : (Int32.ofInt n).toNatClampNeg = n.toNat := by
      show (Int32.ofInt n).toInt.toNat = _
      rw [i32 hi]
    have hn0 : ¬ Int32.ofInt n < 0 := by rw [Int32.lt_iff_toInt_lt, i32 hi, Int32.toInt_zero]; omega
    refine va_newaK (atype := .int) hx hb (hts _ hw) rfl hd rfl hn0 hn (by show n.toNat * _ ≤ _; simp only [newarray.typeOf, componentBytes]; omega) (by omega) (by omega) rfl fun H1 cA e1 z1 o1 hAr hNm => ?_
    have hcA : cA = aC 1 := Option.some.inj (hNm.symm.trans (hK.2 0 _ rfl).2)
    subst hcA
    have hat : va_at D vwCl (H.size, oe B b aC (alloc h (1, n.toNat) n.toNat) (mN h)) H1 := by
      rw [oe_1 (by rw [al_K])]
      show H1[H.size]? = some (vp_cell _ _)
      rw [e1, vp_cell_i]
      have e9 : (mK (alloc h (1, n.toNat) n.toNat) (mN h)).2 = n.toNat := by rw [al_K]
      have e8 : (fun j => Int32.ofInt ((alloc h (1, n.toNat) n.toNat).2 (mN h) j)) = fun _ => Int32.ofInt 0 := by funext j; rw [al_M]
      rw [e9]
      congr 2
      funext j
      rw [al_M]
      rfl
    have hR := hr_new (sl := n.toNat) hH hT (by show n.toNat ≤ 1000; omega) z1 o1 hat
    have := kk H1 locs ls (cells + 1) (slots + n.toNat) hR (va_Sn hS (by omega) o1) hl (by show _ = mC h + 1; omega) (by show _ = mSl h + n.toNat; omega)
    rw [hr_ad hH hT]
    exact this
  · cases hf

theorem so_newa_j (X : Cx B b L xs D aC p l R s m args meth c md d) (hw : Cond.arrayClass .long ∈ w_all) (hd : decode (dB md) pc = .ok (.newarray .long, 2)) : SO P B b L xs D aC p l e R s m args below meth c md d c0 s0 Q pc (mo_newa 2 (pc + 2)) := by
  obtain ⟨hx, hb, hml, hown, hts, hlk, hst, hK, hG, hRm, htb, hnm⟩ := X
  intro lsl stl h r hf
  unfold mo_newa at hf
  split at hf
  · rename_i n r0
    obtain ⟨hq, hf⟩ := bq hf
    obtain rfl := Option.some.inj hf
    obtain ⟨hT, hq⟩ := b2 hq
    obtain ⟨q1, q2⟩ := b2 hq
    have q1 := of_decide_eq_true q1
    have q2 := of_decide_eq_true q2
    have hi : inI n = true := by simp only [inI, Bool.and_eq_true, decide_eq_true_eq]; omega
    refine so_nx ⟨Nat.le_succ _, Nat.le_add_right _ _⟩ fun g1 g2 kk H locs ls cells slots hH hS hl hc0 hs0 => ?_
    have g1 : mC h + 1 ≤ c0 + R.cells := g1
    have g2 : mSl h + n.toNat ≤ s0 + R.slots := g2
    have hn : (Int32.ofInt n).toNatClampNeg = n.toNat := by
      show (Int32.ofInt n).toInt.toNat = _
      rw [i32 hi]
    have hn0 : ¬ Int32.ofInt n < 0 := by rw [Int32.lt_iff_toInt_lt, i32 hi, Int32.toInt_zero]; omega
    refine va_newaK (atype := .long) hx hb (hts _ hw) rfl hd rfl hn0 hn (by show n.toNat * _ ≤ _; simp only [newarray.typeOf, componentBytes]; omega) (by omega) (by omega) rfl fun H1 cA e1 z1 o1 hAr hNm => ?_
    have hcA : cA = aC 2 := Option.some.inj (hNm.symm.trans (hK.2 1 _ rfl).2)
    subst hcA
    have hat : va_at D vwCl (H.size, oe B b aC (alloc h (2, n.toNat) n.toNat) (mN h)) H1 := by
      rw [oe_2 (by rw [al_K])]
      show H1[H.size]? = some (vp_cell _ _)
      rw [e1, vp_cell_l]
      have e9 : (mK (alloc h (2, n.toNat) n.toNat) (mN h)).2 = n.toNat := by rw [al_K]
      have e8 : (fun j => Int64.ofInt ((alloc h (2, n.toNat) n.toNat).2 (mN h) j)) = fun _ => Int64.ofInt 0 := by funext j; rw [al_M]
      rw [e9]
      congr 2
      funext j
      rw [al_M]
      rfl
    have hR := hr_new (sl := n.toNat) hH hT (by show n.toNat ≤ 1000; omega) z1 o1 hat
    have := kk H1 locs ls (cells + 1) (slots + n.toNat) hR (va_Sn hS (by omega) o1) hl (by show _ = mC h + 1; omega) (by show _ = mSl h + n.toNat; omega)
    rw [hr_ad hH hT]
    exact this
  · cases hf

theorem so_newa_z (X : Cx B b L xs D aC p l R s m args meth c md d) (hw : Cond.arrayClass .boolean ∈ w_all) (hd : decode (dB md) pc = .ok (.newarray .boolean, 2)) : SO P B b L xs D aC p l e R s m args below meth c md d c0 s0 Q pc (mo_newa 3 (pc + 2)) := by
  obtain ⟨hx, hb, hml, hown, hts, hlk, hst, hK, hG, hRm, htb, hnm⟩ := X
  intro lsl stl h r hf
  unfold mo_newa at hf
  split at hf
  · rename_i n r0
    obtain ⟨hq, hf⟩ := bq hf
    obtain rfl := Option.some.inj hf
    obtain ⟨hT, hq⟩ := b2 hq
    obtain ⟨q1, q2⟩ := b2 hq
    have q1 := of_decide_eq_true q1
    have q2 := of_decide_eq_true q2
    have hi : inI n = true := by simp only [inI, Bool.and_eq_true, decide_eq_true_eq]; omega
    refine so_nx ⟨Nat.le_succ _, Nat.le_add_right _ _⟩ fun g1 g2 kk H locs ls cells slots hH hS hl hc0 hs0 => ?_
    have g1 : mC h + 1 ≤ c0 + R.cells := g1
    have g2 : mSl h + n.toNat ≤ s0 + R.slots := g2
    have hn : (Int32.ofInt n).toNatClampNeg = n.toNat := by
      show (Int32.ofInt n).toInt.toNat = _
      rw [i32 hi]
    have hn0 : ¬ Int32.ofInt n < 0 := by rw [Int32.lt_iff_toInt_lt, i32 hi, Int32.toInt_zero]; omega
    refine va_newaK (atype := .boolean) hx hb (hts _ hw) rfl hd rfl hn0 hn (by show n.toNat * _ ≤ _; simp only [newarray.typeOf, componentBytes]; omega) (by omega) (by omega) rfl fun H1 cA e1 z1 o1 hAr hNm => ?_
    have hcA : cA = aC 3 := Option.some.inj (hNm.symm.trans (hK.2 2 _ rfl).2)
    subst hcA
    have hat : va_at D vwCl (H.size, oe B b aC (alloc h (3, n.toNat) n.toNat) (mN h)) H1 := by
      rw [oe_3 (by rw [al_K])]
      show H1[H.size]? = some (vp_cell _ _)
      rw [e1, vp_cell_i]
      have e9 : (mK (alloc h (3, n.toNat) n.toNat) (mN h)).2 = n.toNat := by rw [al_K]
      have e8 : (fun j => Int32.ofInt ((alloc h (3, n.toNat) n.toNat).2 (mN h) j)) = fun _ => Int32.ofInt 0 := by funext j; rw [al_M]
      rw [e9]
      congr 2
      funext j
      rw [al_M]
      rfl
    have hR := hr_new (sl := n.toNat) hH hT (by show n.toNat ≤ 1000; omega) z1 o1 hat
    have := kk H1 locs ls (cells + 1) (slots + n.toNat) hR (va_Sn hS (by omega) o1) hl (by show _ = mC h + 1; omega) (by show _ = mSl h + n.toNat; omega)
    rw [hr_ad hH hT]
    exact this
  · cases hf

theorem so_anew {t index : Nat} {C : String} (X : Cx B b L xs D aC p l R s m args meth c md d) (ht : t = 6 ∨ t = 7) (htc : tyA t = .object C) (hov : FieldType.object C ∈ w_over) (hw : Cond.classLink (dY md).cls index C ∈ w_all) (hd : decode (dB md) pc = .ok (.anewarray index, 3)) : SO P B b L xs D aC p l e R s m args below meth c md d c0 s0 Q pc (mo_newa t (pc + 3)) := by
  obtain ⟨hx, hb, hml, hown, hts, hlk, hst, hK, hG, hRm, htb, hnm⟩ := X
  intro lsl stl h r hf
  unfold mo_newa at hf
  split at hf
  · rename_i n r0
    obtain ⟨hq, hf⟩ := bq hf
    obtain rfl := Option.some.inj hf
    obtain ⟨hT, hq⟩ := b2 hq
    obtain ⟨q1, q2⟩ := b2 hq
    have q1 := of_decide_eq_true q1
    have q2 := of_decide_eq_true q2
    have hi : inI n = true := by simp only [inI, Bool.and_eq_true, decide_eq_true_eq]; omega
    refine so_nx ⟨Nat.le_succ _, Nat.le_add_right _ _⟩ fun g1 g2 kk H locs ls cells slots hH hS hl hc0 hs0 => ?_
    have g1 : mC h + 1 ≤ c0 + R.cells := g1
    have g2 : mSl h + n.toNat ≤ s0 + R.slots := g2
    have hn : (Int32.ofInt n).toNatClampNeg = n.toNat := by
      show (Int32.ofInt n).toInt.toNat = _
      rw [i32 hi]
    have hn0 : ¬ Int32.ofInt n < 0 := by rw [Int32.lt_iff_toInt_lt, i32 hi, Int32.toInt_zero]; omega
    refine W.anew hx hb hown (hts _ hw) (w_ovm (Vm.Alike.refl s.vm) (hG.2.2.2.2.2.2.1 _ hov)) rfl hd rfl hn0 (by rw [hn]; omega) (by omega) (by rw [hn]; omega) fun cA kA comp f1 f2 f3 f4 => ?_
    have hRA := (hK.2 (t - 1) _ (ty_at hK t (by omega) (by omega))).2
    rw [htc] at hRA
    have hcA : cA = aC t := Option.some.inj (f1.symm.trans hRA.choose_spec.choose_spec.2.2.2)
    subst hcA
    rw [hn]
    generalize hH1 : H.push ({ cls := aC t, slots := Array.replicate n.toNat .null, vm := .none } : Cell) = H1
    have z1 : H1.size = H.size + 1 := by rw [← hH1, Array.size_push]
    have e1 : H1[H.size]? = some (arrV (aC t) n.toNat (fun _ => .null)) := by rw [← hH1, Array.getElem?_push_size, ← arrV_new]
    have o1 : ∀ q : Nat, q < H.size → H1[q]? = H[q]? := fun q hq => by rw [← hH1, Array.getElem?_push_lt hq, Array.getElem?_eq_getElem hq]
    have hat : va_at D vwCl (H.size, oe B b aC (alloc h (t, n.toNat) n.toNat) (mN h)) H1 := by
      rw [oe_4 (t := t) (by rw [al_K]) (by omega)]
      show H1[H.size]? = some (vp_cell _ _)
      rw [e1, vp_cell_q]
      have e9 : (mK (alloc h (t, n.toNat) n.toNat) (mN h)).2 = n.toNat := by rw [al_K]
      rw [e9]
      congr 2
      funext j
      rw [al_R]
      rfl
    have hR := hr_new (sl := n.toNat) hH hT (by show n.toNat ≤ 1000; omega) z1 o1 hat
    have := kk H1 locs ls (cells + 1) (slots + n.toNat) hR (va_Sn hS (by omega) o1) hl (by show _ = mC h + 1; omega) (by show _ = mSl h + n.toNat; omega)
    rw [hr_ad hH hT]
    exact this
  · cases hf
theorem hr_rows {h : mMH} {H H1 : Heap} {t t1 N K : Nat} (hH : HR B b D aC h H) (hT : mT h = true) (hN : N ≤ 1000) (hK1 : K ≤ 1000) (hz : H1.size = H.size + 1 + N) (ho : ∀ q : Nat, q < H.size → H1[q]? = H[q]?) (h0 : va_at D vwCl (H.size, oe B b aC (rowsOf h t t1 N K) (mN h)) H1) (h1 : ∀ j, j < N → va_at D vwCl (H.size + 1 + j, oe B b aC (rowsOf h t t1 N K) (mN h + 1 + j)) H1) : HR B b D aC (rowsOf h t t1 N K) H1 := by
  obtain ⟨⟨z1, z2, z3⟩, k1, c1⟩ := hH
  have e0 := z1 hT
  have blt : ∀ {a n : Nat}, a < n → Nat.blt a n = true := fun {a n} h => Nat.ble_eq.mpr h
  have bge : ∀ {a n : Nat}, n ≤ a → Nat.blt a n = false := fun {a n} h => by
    cases q : Nat.blt a n with
    | false => rfl
    | true => exact absurd (Nat.ble_eq.mp q) (by omega)
  have kk : ∀ j, mK (rowsOf h t t1 N K) j = if j < mN h then mK h j else if j = mN h then (t, N) else if j < mN h + 1 + N then (t1, K) else mK h j := fun j => by
    show (bif Nat.blt j (mN h) then mK h j else bif Nat.beq j (mN h) then (t, N) else bif Nat.blt j (mN h + 1 + N) then (t1, K) else mK h j) = _
    by_cases q1 : j < mN h
    · rw [blt q1, if_pos q1]; rfl
    · rw [bge (by omega), if_neg q1]
      by_cases q2 : j = mN h
      · subst q2; rw [nb_eq, if_pos rfl]; rfl
      · rw [nb_ne q2, if_neg q2]
        by_cases q3 : j < mN h + 1 + N
        · rw [blt q3, if_pos q3]; rfl
        · rw [bge (by omega), if_neg q3]; rfl
  refine ⟨⟨fun _ => by show H1.size = B + (mN h + 1 + N); omega, by show B + (mN h + 1 + N) ≤ H1.size; omega, by show 1 ≤ mN h + 1 + N; omega⟩, fun j hj => ?_, fun j hj => ?_⟩
  · by_cases q1 : j < mN h
    · rw [kk, if_pos q1] at hj
      have := k1 j hj
      exact ⟨⟨this.1.1, by show j < mN h + 1 + N; omega⟩, by rw [kk, if_pos q1]; exact this.2⟩
    · by_cases q3 : j < mN h + 1 + N
      · refine ⟨⟨by omega, q3⟩, ?_⟩
        rw [kk, if_neg q1]
        by_cases q2 : j = mN h
        · rw [if_pos q2]; exact hN
        · rw [if_neg q2, if_pos q3]; exact hK1
      · rw [kk, if_neg q1, if_neg (by omega), if_neg q3] at hj
        have := k1 j hj
        omega
  · by_cases q1 : j < mN h
    · rw [kk, if_pos q1] at hj
      have e2 : oe B b aC (rowsOf h t t1 N K) j = oe B b aC h j := by
        have f0 : mK (rowsOf h t t1 N K) j = mK h j := by rw [kk, if_pos q1]
        have f1 : (rowsOf h t t1 N K).2 j = h.2 j := by funext i; show (bif Nat.blt j (mN h) then h.2 j i else _) = _; rw [blt q1]; rfl
        have f2 : mR (rowsOf h t t1 N K) j = mR h j := by funext i; show (bif Nat.blt j (mN h) then mR h j i else _) = _; rw [blt q1]; rfl
        unfold oe; rw [f0, f1, f2]
      rw [e2]
      exact (c1 j hj).kept (ho _ (by show B + j < H.size; omega))
    · by_cases q3 : j < mN h + 1 + N
      · by_cases q2 : j = mN h
        · subst q2; rw [← e0]; exact h0
        · have := h1 (j - (mN h + 1)) (by omega)
          rw [show H.size + 1 + (j - (mN h + 1)) = B + j by omega, show mN h + 1 + (j - (mN h + 1)) = j by omega] at this
          exact this
      · rw [kk, if_neg q1, if_neg (by omega), if_neg q3] at hj
        have := k1 j hj
        omega
theorem rw_K0 {h : mMH} {t t1 N K : Nat} : mK (rowsOf h t t1 N K) (mN h) = (t, N) := by
  show (bif Nat.blt (mN h) (mN h) then mK h (mN h) else bif Nat.beq (mN h) (mN h) then (t, N) else _) = _
  rw [blt_f (a := (mN h)) (n := (mN h)) (by omega), nb_eq]; rfl
theorem rw_R0 {h : mMH} {t t1 N K : Nat} (j : Nat) : mR (rowsOf h t t1 N K) (mN h) j = if j < N then some (mN h + 1 + j) else none := by
  show (bif Nat.blt (mN h) (mN h) then mR h (mN h) j else bif Nat.beq (mN h) (mN h) then (bif Nat.blt j N then some (mN h + 1 + j) else none) else _) = _
  rw [blt_f (a := (mN h)) (n := (mN h)) (by omega), nb_eq]
  by_cases q : j < N
  · rw [show Nat.blt j N = true from Nat.ble_eq.mpr q, if_pos q]; rfl
  · rw [blt_f (a := j) (n := N) (by omega), if_neg q]; rfl
theorem rw_K1 {h : mMH} {t t1 N K j : Nat} (hj : j < N) : mK (rowsOf h t t1 N K) (mN h + 1 + j) = (t1, K) := by
  show (bif Nat.blt (mN h + 1 + j) (mN h) then mK h (mN h + 1 + j) else bif Nat.beq (mN h + 1 + j) (mN h) then (t, N) else bif Nat.blt (mN h + 1 + j) (mN h + 1 + N) then (t1, K) else mK h (mN h + 1 + j)) = _
  rw [blt_f (a := (mN h + 1 + j)) (n := (mN h)) (by omega), nb_ne (by omega), show Nat.blt (mN h + 1 + j) (mN h + 1 + N) = true from Nat.ble_eq.mpr (by omega)]; rfl
theorem rw_M1 {h : mMH} {t t1 N K j : Nat} (hj : j < N) (i : Nat) : (rowsOf h t t1 N K).2 (mN h + 1 + j) i = 0 := by
  show (bif Nat.blt (mN h + 1 + j) (mN h) then h.2 (mN h + 1 + j) i else bif Nat.blt (mN h + 1 + j) (mN h + 1 + N) then 0 else h.2 (mN h + 1 + j) i) = 0
  rw [blt_f (a := (mN h + 1 + j)) (n := (mN h)) (by omega), show Nat.blt (mN h + 1 + j) (mN h + 1 + N) = true from Nat.ble_eq.mpr (by omega)]; rfl
theorem so_mna {t t1 index : Nat} {ty : FieldType} {z : Nat → vp_A} (X : Cx B b L xs D aC p l R s m args meth c md d) (ht : t = 4 ∨ t = 5) (ht1 : t1 = 1 ∨ t1 = 2) (htc : tyA t = .array ty) (ht1c : tyA t1 = ty) (hov : FieldType.array ty ∈ w_over) (hnf : (FieldType.array ty).toString = "[" ++ ty.toString) (hw1 : Cond.classLink (dY md).cls index ("[" ++ (FieldType.array ty).toString) ∈ w_all) (hw2 : Cond.arrayClass ty ∈ w_all)
    (hdf : fits ty (defaultValue ty) = true) (hdd : (defaultValue ty).isDefault = true) (hcb : componentBytes ty ≤ 8) (hz : ∀ (c : ClassId) (K : Nat), Jvm.Free.Multi.innerC c K (defaultValue ty) = vp_cell c (z K)) (hz2 : ∀ (h : mMH) (N K j : Nat), j < N → oe B b aC (rowsOf h t t1 N K) (mN h + 1 + j) = .inl (aC t1, z K)) (hd : decode (dB md) pc = .ok (.multianewarray index 2, 4)) : SO P B b L xs D aC p l e R s m args below meth c md d c0 s0 Q pc (mo_mna t t1 (pc + 4)) := by
  obtain ⟨hx, hb, hml, hown, hts, hlk, hst, hK, hG, hRm, htb, hnm⟩ := X
  intro lsl stl h r hf
  unfold mo_mna at hf
  split at hf
  · rename_i k n r0
    obtain ⟨hq, hf⟩ := bq hf
    obtain rfl := Option.some.inj hf
    obtain ⟨hT, hq⟩ := b2 hq
    obtain ⟨hq1, hq2⟩ := b2 hq
    obtain ⟨q1, q2⟩ := b2 hq1
    obtain ⟨q3, q4⟩ := b2 hq2
    have q1 := of_decide_eq_true q1
    have q2 := of_decide_eq_true q2
    have q3 := of_decide_eq_true q3
    have q4 := of_decide_eq_true q4
    have hi : inI n = true := by simp only [inI, Bool.and_eq_true, decide_eq_true_eq]; omega
    have hik : inI k = true := by simp only [inI, Bool.and_eq_true, decide_eq_true_eq]; omega
    refine so_nx ⟨by show mC h ≤ mC h + 1 + n.toNat; omega, by show mSl h ≤ mSl h + n.toNat + n.toNat * k.toNat; omega⟩ fun g1 g2 kk H locs ls cells slots hH hS hl hc0 hs0 => ?_
    have g1 : mC h + 1 + n.toNat ≤ c0 + R.cells := g1
    have g2 : mSl h + n.toNat + n.toNat * k.toNat ≤ s0 + R.slots := g2
    have hn : (Int32.ofInt n).toNatClampNeg = n.toNat := by
      show (Int32.ofInt n).toInt.toNat = _
      rw [i32 hi]
    have hkn : (Int32.ofInt k).toNatClampNeg = k.toNat := by
      show (Int32.ofInt k).toInt.toNat = _
      rw [i32 hik]
    have hn0 : ¬ Int32.ofInt n < 0 := by rw [Int32.lt_iff_toInt_lt, i32 hi, Int32.toInt_zero]; omega
    have hk0 : ¬ Int32.ofInt k < 0 := by rw [Int32.lt_iff_toInt_lt, i32 hik, Int32.toInt_zero]; omega
    have hcy : s.vm.findClass (FieldType.array ty).toString = some (aC t1) := by
      have h9 := (hK.2 (t1 - 1) _ (ty_at hK t1 (by omega) (by omega))).2
      rw [hnf, ← ht1c]
      rcases ht1 with rfl | rfl <;> exact h9
    have hcx : s.vm.findClass ("[" ++ (FieldType.array ty).toString) = some (aC t) := by
      have h9 := (hK.2 (t - 1) _ (ty_at hK t (by omega) (by omega))).2
      rw [htc] at h9
      exact h9
    intro T hTT Xs
    have hb2 : k.toNat * componentBytes ty ≤ 536870912 := Nat.le_trans (Nat.mul_le_mul (show k.toNat ≤ 1000 by omega) hcb) (by omega)
    obtain ⟨vm₁, cA, comp, -, fA, fC, hO, -, X', step⟩ := Xs.multianewarray2F hx hown (hts _ hw1) (w_ovm (Vm.Alike.refl s.vm) (hG.2.2.2.2.2.2.1 _ hov)) (hts _ hw2) (g := F0 m pc ls (List.map (eV B b) (vI k :: vI n :: r0))) rfl (by rw [hb]; exact hd) rfl hn0 hk0 (by rw [hn]; omega) (by rw [hkn]; exact hb2) (by rw [hkn]; omega) hdf hdd (by rw [hn]; omega) (by rw [hn, hkn]; omega)
    obtain rfl : aC t = cA := Option.some.inj (hcx.symm.trans fA)
    obtain rfl : aC t1 = comp := Option.some.inj (hcy.symm.trans fC)
    rw [hn, hkn] at X' step
    generalize hF : Jvm.Free.Multi.fill (T.setVm vm₁) (aC t) (aC t1) n.toNat k.toNat (defaultValue ty) n.toNat = F at X' step
    have hTh : (T.setVm vm₁).heap = H := hTT
    obtain ⟨f1, f2, -, -⟩ := Jvm.Free.Multi.fill_facts (T.setVm vm₁) (aC t) (aC t1) n.toNat k.toNat (defaultValue ty) n.toNat
    rw [hF, hTh] at f1 f2
    have hold : ∀ x : Nat, x < H.size → F.heap[x]? = H[x]? := fun x hx => by
      have := Jvm.Free.Multi.fill_old (T.setVm vm₁) (aC t) (aC t1) n.toNat k.toNat (defaultValue ty) (a := x) (by rw [hTh]; exact hx) n.toNat
      rw [hF, hTh] at this
      exact this
    have hrow : ∀ j : Nat, j < n.toNat → F.heap[H.size + 1 + j]? = some (vp_cell (aC t1) (z k.toNat)) := fun j hj => by
      have := Jvm.Free.Multi.fill_inner (T.setVm vm₁) (aC t) (aC t1) n.toNat k.toNat (defaultValue ty) n.toNat j hj
      rw [hF, hTh, hz] at this
      exact this
    rw [vr_outer] at f2
    have e0 := hH.1.1 hT
    have hsz : F.heap.size = H.size + 1 + n.toNat := f1
    have h0 : va_at D vwCl (H.size, oe B b aC (rowsOf h t t1 n.toNat k.toNat) (mN h)) F.heap := by
      rw [oe_4 (t := t) (by rw [rw_K0]) (by omega)]
      show F.heap[H.size]? = some (vp_cell _ _)
      rw [f2, vp_cell_q, rw_K0]
      congr 2
      funext j
      rw [rw_R0]
      by_cases q : j < n.toNat
      · rw [if_pos q, if_pos q]
        show va_rf (some (H.size + 1 + j)) = va_rf (some (adr B b (mN h + 1 + j)))
        rw [adr_pos (by omega)]
        congr 2
        omega
      · rw [if_neg q, if_neg q]; rfl
    have hR := hr_rows (t := t) (t1 := t1) (N := n.toNat) (K := k.toNat) hH hT (by omega) (by omega) hsz hold h0 (fun j hj => by rw [hz2 h n.toNat k.toNat j hj]; exact hrow j hj)
    have kq := kk F.heap locs ls (cells + 1 + n.toNat) (slots + n.toNat + n.toNat * k.toNat) hR (va_Sn hS (by omega) hold) hl (by show _ = mC h + 1 + n.toNat; omega) (by show _ = mSl h + n.toNat + n.toNat * k.toNat; omega)
    have ea : Value.ref T.heap.size = eV B b (vR (some (mN h))) := by rw [hTT]; exact hr_ad hH hT
    obtain ⟨t9, a1, b1⟩ := kq F rfl X'
    refine ⟨t9, step t9 ?_, b1⟩
    rw [ea]
    exact a1
  · cases hf
theorem so_objinit {index : Nat} (X : Cx B b L xs D aC p l R s m args meth c md d) (hw1 : Cond.methodLink (dY md).cls index Lib.objectInit ∈ w_all) (hw2 : Cond.instanceMethod Lib.objectInit ∈ w_all) (hw3 : Cond.code Lib.objectInit ⟨#[0xb1]⟩ 1 none ∈ w_all) (hd : decode (dB md) pc = .ok (.invokespecial index, 3)) : SO P B b L xs D aC p l e R s m args below meth c md d c0 s0 Q pc (mo_objinit (pc + 3)) := by
  obtain ⟨hx, hb, hml, hown, hts, hlk, hst, hK, hG, hRm, htb, hnm⟩ := X
  intro lsl stl h r hf
  unfold mo_objinit at hf
  split at hf
  · rename_i a r0
    obtain ⟨hq, hf⟩ := bq hf
    obtain rfl := Option.some.inj hf
    have hq : (r0.map mcat).sum ≤ 8 := Nat.ble_eq.mp hq
    refine so_pu fun H locs ls cells slots hH hS hl kk => ?_
    have hcat : ((r0.map (eV B b)).map fun v => v.category).sum = (r0.map mcat).sum := by
      rw [List.map_map]
      congr 1
      exact List.map_congr_left fun v _ => cat_eV B b v
    refine W.objInit hx hb hown (hts _ hw1) (hts _ hw2) (hts _ hw3) rfl (by rw [hml]; exact hl.choose_spec.1.1) rfl hd (by omega) ?_ kk
    show 2 * 0 + ((r0.map (eV B b)).map fun v => v.category).sum + 12 ≤ R.locals
    rw [hcat]
    omega
  · cases hf
end SOM
end
section
/-! ===== calls, ends ===== -/
section SOC
variable {P : Nat → mMD} {B b L : Nat} {xs : Nat → Int32} {D : va_G} {aC : Nat → ClassId} {p : Program} {l : Launch} {e : Env} {R : Room} {s : State} {m : MethodId} {args : Array Value} {below : List Frame} {meth : Method} {c : Code} {md : mMD} {d c0 s0 : Nat} {Q : State → Prop} {pc : Nat}

variable {H : Heap} {locs : List Loc} {cells slots : Nat} {ls : Array Slot}
theorem vx_useR {mc ms : Nat} {st0 rest : List Value} {v : Option mMV} {h1 : mMH} {a : Array Value} (hr : vx_Run p l e R s m args below meth c H locs cells slots mc ms (F0 m pc ls st0) rest (QcM B b D aC v h1 a) (fun _ _ _ => False) (fun q => B < q)) (hS : va_S (fun q => B < q) s.heap H locs)
    (kk : ∀ (H1 : Heap) (locs1 : List Loc), HR B b D aC h1 H1 → va_S (fun q => B < q) s.heap H1 locs1 → W p l e R s m args below meth c H1 locs1 (cells + mc) (slots + ms) Q (F0 m (pc + 3) ls ((v.map (eV B b)).toList ++ rest))) : W p l e R s m args below meth c H locs cells slots Q (F0 m pc ls st0) := by
  intro T hT X
  rcases hr T hT X with ⟨v9, st₀, t, T', L9, h0, X', hL, e1, e2, ⟨hv, hh, hF⟩, st⟩ | ⟨q, st₀, t, T', L9, E, ce, h0, X', hL, e1, e2, hF, -⟩
  · cases hv
    obtain ⟨k1, k2, k3⟩ := vx_keep h0 e1 hS (fun q _ h => h) (fun q h => h) hL hF
    obtain ⟨t2, a1, b1⟩ := kk T'.heap (locs ++ L9) (by rw [e1]; exact hh) k3 T' rfl X'
    exact ⟨t2, st t2 a1, b1⟩
  · exact absurd hF id
theorem vx_useX {mc ms : Nat} {st0 rest : List Value} {E : Nat} {h1 : mMH} {Qa : State → Outcome → State → Prop} (hQ : ∀ a b c, ¬ Qa a b c) (hr : vx_Run p l e R s m args below meth c H locs cells slots mc ms (F0 m pc ls st0) rest Qa (XCM B b D aC E h1) (fun q => B < q)) (hS : va_S (fun q => B < q) s.heap H locs)
    (kk : ∀ (H1 : Heap) (locs1 : List Loc) (q : Addr) (ce : Cell), HR B b D aC h1 H1 → va_S (fun q => B < q) s.heap H1 locs1 → H1[q]? = some ce → ce.vm = .none → s.vm.findClass (en E) = some ce.cls → vx_W p l e R s m args below meth c H1 locs1 (cells + mc) (slots + ms) Q (F0 m pc ls rest) q) : W p l e R s m args below meth c H locs cells slots Q (F0 m pc ls st0) := by
  intro T hT X
  rcases hr T hT X with ⟨v9, st₀, t, T', L9, h0, X', hL, e1, e2, hF, -⟩ | ⟨q, st₀, t, T', L9, E9, ce, h0, X', hL, e1, e2, ⟨rfl, hh, hF⟩, hce, hcv, hcl, st⟩
  · exact absurd hF (hQ _ _ _)
  · obtain ⟨k1, k2, k3⟩ := vx_keep h0 e1 hS (fun q _ h => h) (fun q h => h) hL hF
    obtain ⟨t2, a1, b1⟩ := kk T'.heap (locs ++ L9) q ce (by rw [e1]; exact hh) k3 (by rw [e1]; exact hce) hcv hcl T' rfl X'
    exact ⟨t2, st.trans a1, b1⟩
theorem pc_blind {as : List mMV} {h : mMH} : FrameBlind (PcM B b L xs D aC as h) := by
  intro a U g mk q
  obtain ⟨q0, q1, qK, qG⟩ := q
  exact ⟨q0, q1, va_K.moved (u := U) (U := U.calling g mk a) (Vm.Alike.refl U.vm) qK, Gl.moved (s := U) (U := U.calling g mk a) (State.WarmedH.refl U) qG⟩
theorem pc_here {as : List mMV} {h : mMH} (hK : va_K D vwCl (tysL aC) s) (hG : Gl B b L xs s s.heap) (hH : HR B b D aC h H) (hS : va_S (fun q => B < q) s.heap H locs) {U : State} (hU : U.heap = H) (hW : s.WarmedH U.vm) : PcM B b L xs D aC as h (as.map (eV B b)).toArray U := by
  refine ⟨rfl, by rw [hU]; exact hH, va_K.moved hW.alike hK, ?_⟩
  rw [hU]
  exact (hG.moved hW).kept hS.1 (fun q hq => hS.2.1 q (Nat.lt_of_le_of_lt hq hG.1.1) (Nat.not_lt.mpr hq))
theorem wc_good {i : Nat} (w4 : wC (P i) ∈ w_all) : GoodIn w_all (wC (P i) :: w_all) := fun w hw => by
  rcases List.mem_cons.mp hw with rfl | hw
  · exact w_good w4
  · exact w_good hw
theorem g_cons {a : Cond} {ws : List Cond} (h : a ∈ w_all) (hG : GoodIn w_all ws) : GoodIn w_all (a :: ws) := fun w hw => by
  rcases List.mem_cons.mp hw with rfl | hw
  · exact w_good h
  · exact hG w hw
theorem wc_code {i : Nat} (h0 : dH (P i) = []) : wC (P i) = .code (dY (P i)) (dB (P i)) (dL (P i)) (dT (P i)) := by
  unfold wC; rw [h0]
theorem room_c {d' mL : Nat} (hRm : d + 1 ≤ R.frames ∧ 106 + 30 * d ≤ R.locals) (hd : d = d' + 1) (hL : mL ≤ 11) : d' + 1 + 1 ≤ R.frames ∧ 8 + (mL + 11) + (106 + 30 * d') ≤ R.locals := by omega
theorem roomy_c {r : mST} (h : roomy r = true) : ((r.map (eV B b)).map fun v => v.category).sum ≤ 8 := by
  have h1 : (r.map mcat).sum ≤ 8 := Nat.ble_eq.mp h
  have hcat : ((r.map (eV B b)).map fun v => v.category).sum = (r.map mcat).sum := by
    rw [List.map_map]
    congr 1
    exact List.map_congr_left fun v _ => cat_eV B b v
  rw [hcat]; exact h1
theorem st_S {n : Nat} {st : mST} (hn : n ≤ st.length) : st.map (eV B b) = (((st.take n).reverse).map (eV B b)).reverse ++ (st.drop n).map (eV B b) := by
  rw [← List.map_reverse, List.reverse_reverse, ← List.map_append, List.take_append_drop]
/-- a call whose run is known, both ways -/
theorem so_run {i : Nat} {as : List mMV} {rest : mST} {lsl : mLS} {stl : mST} {h h1 : mMH} {d' : Nat} {o : Option mMV ⊕ Nat} (hd' : d = d' + 1) (hc1 : mC h ≤ mC h1) (hs1 : mSl h ≤ mSl h1) (hc2 : mC h1 ≤ c0 + R.cells) (hs2 : mSl h1 ≤ s0 + R.slots) (hM : CM B b L xs D aC l (P i) d' as h o h1)
    (k : ∀ (H : Heap) (locs : List Loc) (ls : Array Slot) (cells slots : Nat) (Qc : Array Value → State → Outcome → State → Prop) (XC : String → State → State → Prop), HR B b D aC h H → va_S (fun q => B < q) s.heap H locs → ls.size = dL md → cells + (mC h1 - mC h) ≤ R.cells ∧ slots + (mSl h1 - mSl h) ≤ R.slots →
      vx_Met l (dY (P i)) (wC (P i) :: w_all) { frames := d' + 1, cells := mC h1 - mC h, slots := mSl h1 - mSl h, locals := 106 + 30 * d' } (PcM B b L xs D aC as h) Qc XC (mC h1 - mC h) (mSl h1 - mSl h) (fun q => B < q) →
      vx_Run p l e R s m args below meth c H locs cells slots (mC h1 - mC h) (mSl h1 - mSl h) (F0 m pc ls (stl.map (eV B b))) (rest.map (eV B b)) (Qc (as.map (eV B b)).toArray) XC (fun q => B < q)) :
    SOo B b D aC p l e R s m args below meth c md c0 s0 Q o (pc + 3) lsl rest h1 pc stl h := by
  cases o with
  | inl v =>
    intro kk H locs ls cells slots hH hS hl hc hs
    refine vx_useR (k H locs ls cells slots _ _ hH hS hl.choose_spec.1.1 ⟨by omega, by omega⟩ hM) hS fun H1 locs1 hH1 hS1 => ?_
    have := kk H1 locs1 ls (cells + (mC h1 - mC h)) (slots + (mSl h1 - mSl h)) hH1 hS1 hl (by omega) (by omega)
    rw [List.map_append] at this
    cases v with
    | none => exact this
    | some v => exact this
  | inr E =>
    intro kk H locs ls cells slots hH hS hl hc hs
    exact vx_useX (fun _ _ _ h => h) (k H locs ls cells slots _ _ hH hS hl.choose_spec.1.1 ⟨by omega, by omega⟩ hM) hS fun H1 locs1 q ce hH1 hS1 g1 g2 g3 => kk H1 locs1 ls _ _ _ q ce hH1 hS1 hl (by omega) (by omega) g1 g2 g3

theorem so_callS {i n index : Nat} (X : Cx B b L xs D aC p l R s m args meth c md d) (h0 : dH (P i) = []) (w1 : Cond.methodLink (dY md).cls index (dY (P i)) ∈ w_all) (w2 : Cond.static (dY (P i)) ∈ w_all) (w3 : Cond.initialized (dY (P i)).cls ∈ w_all) (hd0 : (dY (P i)).cls ≠ "java/lang/invoke/MethodHandle" ∧ (dY (P i)).cls ≠ "java/lang/invoke/VarHandle" ∧ (parseMethodDescriptor (dY (P i)).desc).map (fun d => d.parameters.length) = some n) (w4 : wC (P i) ∈ w_all) (hd : decode (dB md) pc = .ok (.invokestatic index, 3)) : SO P B b L xs D aC p l e R s m args below meth c md d c0 s0 Q pc (mo_callS i n (pc + 3)) := by
  obtain ⟨hx, hb, hml, hown, hts, hlk, hst, hK, hG, hRm, htb, hnm⟩ := X
  intro lsl stl h r hf
  unfold mo_callS at hf
  obtain ⟨hq, hf⟩ := bq hf
  obtain rfl := Option.some.inj hf
  obtain ⟨hq1, hq2⟩ := b2 hq
  have hq1 : n ≤ stl.length := Nat.ble_eq.mp hq1
  intro d' o h1 hd' hc1 hs1 hc2 hs2 hL11 hM
  have hRc := room_c hRm hd' hL11
  exact so_run (i := i) hd' hc1 hs1 hc2 hs2 hM fun H locs ls cells slots Qc XC hH hS hls hf9 hM9 =>
    vx_runS ⟨hx, hb, hml, hown, hts⟩ hM9 (⟨callB_of n hts (wc_good w4) (by rw [wc_code h0]) rfl rfl (hts _ w3) (hts _ w1) hd0 hRc, hts _ w2⟩) ⟨pc_blind, fun U hU hW => pc_here hK hG hH hS hU hW⟩ rfl (by rw [List.length_map, List.length_reverse, List.length_take]; omega) (by show ls.size = _; exact hls) (st_S hq1) (lv_room (roomy_c hq2)) hd hf9

theorem so_callSN {i n index : Nat} {host : String} (X : Cx B b L xs D aC p l R s m args meth c md d) (h0 : dH (P i) = []) (w1 : Cond.methodLinkNest (dY md).cls index (dY (P i)) host ∈ w_bad) (w2 : Cond.static (dY (P i)) ∈ w_all) (w3 : Cond.initialized (dY (P i)).cls ∈ w_all) (hd0 : (dY (P i)).cls ≠ "java/lang/invoke/MethodHandle" ∧ (dY (P i)).cls ≠ "java/lang/invoke/VarHandle" ∧ (parseMethodDescriptor (dY (P i)).desc).map (fun d => d.parameters.length) = some n) (w4 : wC (P i) ∈ w_all) (hd : decode (dB md) pc = .ok (.invokestatic index, 3)) : SO P B b L xs D aC p l e R s m args below meth c md d c0 s0 Q pc (mo_callS i n (pc + 3)) := by
  obtain ⟨hx, hb, hml, hown, hts, hlk, hst, hK, hG, hRm, htb, hnm⟩ := X
  intro lsl stl h r hf
  unfold mo_callS at hf
  obtain ⟨hq, hf⟩ := bq hf
  obtain rfl := Option.some.inj hf
  obtain ⟨hq1, hq2⟩ := b2 hq
  have hq1 : n ≤ stl.length := Nat.ble_eq.mp hq1
  intro d' o h1 hd' hc1 hs1 hc2 hs2 hL11 hM
  have hRc := room_c hRm hd' hL11
  exact so_run (i := i) hd' hc1 hs1 hc2 hs2 hM fun H locs ls cells slots Qc XC hH hS hls hf9 hM9 =>
    vx_runSN ⟨hx, hb, hml, hown, hts⟩ hM9 (⟨va_cnB n hts (wc_good w4) (by rw [wc_code h0]) rfl rfl (hG.2.2.2.2.2.1 _ w1) (hts _ w3) hd0 hRc, hts _ w2, trivial⟩) ⟨pc_blind, fun U hU hW => pc_here hK hG hH hS hU hW⟩ rfl (by rw [List.length_map, List.length_reverse, List.length_take]; omega) (by show ls.size = _; exact hls) (st_S hq1) (lv_room (roomy_c hq2)) hd hf9

theorem so_callSW {i n index : Nat} {q0 : Nat × Nat × Nat × Nat} {qs : List (Nat × Nat × Nat × Nat)} (X : Cx B b L xs D aC p l R s m args meth c md d) (h0 : dH (P i) = q0 :: qs) (w1 : Cond.methodLink (dY md).cls index (dY (P i)) ∈ w_all) (w2 : Cond.static (dY (P i)) ∈ w_all) (w3 : Cond.initialized (dY (P i)).cls ∈ w_all) (hd0 : (dY (P i)).cls ≠ "java/lang/invoke/MethodHandle" ∧ (dY (P i)).cls ≠ "java/lang/invoke/VarHandle" ∧ (parseMethodDescriptor (dY (P i)).desc).map (fun d => d.parameters.length) = some n) (w4 : wC (P i) ∈ w_all) (hd : decode (dB md) pc = .ok (.invokestatic index, 3)) : SO P B b L xs D aC p l e R s m args below meth c md d c0 s0 Q pc (mo_callS i n (pc + 3)) := by
  obtain ⟨hx, hb, hml, hown, hts, hlk, hst, hK, hG, hRm, htb, hnm⟩ := X
  intro lsl stl h r hf
  unfold mo_callS at hf
  obtain ⟨hq, hf⟩ := bq hf
  obtain rfl := Option.some.inj hf
  obtain ⟨hq1, hq2⟩ := b2 hq
  have hq1 : n ≤ stl.length := Nat.ble_eq.mp hq1
  intro d' o h1 hd' hc1 hs1 hc2 hs2 hL11 hM
  have hRc := room_c hRm hd' hL11
  exact so_run (i := i) hd' hc1 hs1 hc2 hs2 hM fun H locs ls cells slots Qc XC hH hS hls hf9 hM9 =>
    vx_runSX (hh := q0 :: qs) ⟨hx, hb, hml, hown, hts⟩ hM9 (vx_cwSW n hts (g_cons w1 (g_cons w2 (g_cons w3 (wc_good w4)))) (by unfold wC; rw [h0]) rfl rfl hd0 hRc) ⟨pc_blind, fun U hU hW => pc_here hK hG hH hS hU hW⟩ rfl (by rw [List.length_map, List.length_reverse, List.length_take]; omega) (by show ls.size = _; exact hls) (st_S hq1) (lv_room (roomy_c hq2)) hd hf9

theorem so_callV {i cn n index : Nat} {q : vw_C} (X : Cx B b L xs D aC p l R s m args meth c md d) (h0 : dH (P i) = []) (hcl : vwCl[cn]? = some q) (hy : (dY (P i)).cls = q.1) (w1 : Cond.methodLink (dY md).cls index (dY (P i)) ∈ w_all) (w2 : Cond.instanceMethod (dY (P i)) ∈ w_all) (w3 : Cond.selects q.1 (dY (P i)) (dY (P i)) ∈ w_all) (w5 : Cond.initialized q.1 ∈ w_all) (hd0 : (dY (P i)).cls ≠ "java/lang/invoke/MethodHandle" ∧ (dY (P i)).cls ≠ "java/lang/invoke/VarHandle" ∧ (parseMethodDescriptor (dY (P i)).desc).map (fun d => d.parameters.length) = some n) (w4 : wC (P i) ∈ w_all) (hd : decode (dB md) pc = .ok (.invokevirtual index, 3)) : SO P B b L xs D aC p l e R s m args below meth c md d c0 s0 Q pc (mo_callV i cn n (pc + 3)) := by
  obtain ⟨hx, hb, hml, hown, hts, hlk, hst, hK, hG, hRm, htb, hnm⟩ := X
  intro lsl stl h r hf
  unfold mo_callV at hf
  split at hf
  · rename_i a as has
    obtain ⟨hq, hf⟩ := bq hf
    obtain rfl := Option.some.inj hf
    obtain ⟨hq1, hq⟩ := b2 hq
    obtain ⟨hq2, hq3⟩ := b2 hq
    have hq2 : as.length = n := Nat.eq_of_beq_eq_true hq2
    have hlen : n + 1 ≤ stl.length := by
      have := congrArg List.length has
      rw [List.length_reverse, List.length_take, List.length_cons] at this
      omega
    have hstk : stl.map (eV B b) = (as.map (eV B b)).reverse ++ (.ref (adr B b a) :: (stl.drop (n + 1)).map (eV B b)) := by
      rw [st_S (n := n + 1) hlen, has]
      simp [eV, eR, va_rf]
    intro d' o h1 hd' hc1 hs1 hc2 hs2 hL11 hM
    have hRc := room_c hRm hd' hL11
    refine so_run (i := i) hd' hc1 hs1 hc2 hs2 hM fun H locs ls cells slots Qc XC hH hS hls hf9 hM9 => ?_
    have hPc : ∀ U : State, U.heap = H → s.WarmedH U.vm → PcM B b L xs D aC (vR (some a) :: as) h (Value.ref (adr B b a) :: as.map (eV B b)).toArray U := fun U hU hW => pc_here hK hG hH hS hU hW
    have hrv : ∃ cell : Cell, H[adr B b a]? = some cell ∧ cell.vm.isStatics = false ∧ s.vm.findClass q.1 = some cell.cls := va_recv hK (va_1 (hr_0 hH (kq_k hq1)).2) hcl (q0 := 0) rfl
    exact vx_runV (C := q.1) ⟨hx, hb, hml, hown, hts⟩ hM9 (cwV n hts (g_cons w1 (g_cons w2 (g_cons w3 (g_cons w5 (wc_good w4))))) (by rw [wc_code h0]) rfl rfl ⟨hy, hd0⟩ hRc) ⟨pc_blind, hrv, hPc⟩ rfl (by rw [List.length_map]; exact hq2) (by show ls.size = _; exact hls) hstk (lv_room (roomy_c hq3)) hd hf9
  · cases hf

theorem so_callI {i cn n index : Nat} (X : Cx B b L xs D aC p l R s m args meth c md d) (h0 : dH (P i) = []) (ht0 : dT (P i) = none) (hini : (dY (P i)).name = "<init>") (w1 : Cond.methodLink (dY md).cls index (dY (P i)) ∈ w_all) (w2 : Cond.instanceMethod (dY (P i)) ∈ w_all) (w3 : Cond.initialized (dY (P i)).cls ∈ w_all) (hd0 : (dY (P i)).cls ≠ "java/lang/invoke/MethodHandle" ∧ (dY (P i)).cls ≠ "java/lang/invoke/VarHandle" ∧ (parseMethodDescriptor (dY (P i)).desc).map (fun d => d.parameters.length) = some n) (w4 : wC (P i) ∈ w_all) (hd : decode (dB md) pc = .ok (.invokespecial index, 3)) : SO P B b L xs D aC p l e R s m args below meth c md d c0 s0 Q pc (mo_callV i cn n (pc + 3)) := by
  obtain ⟨hx, hb, hml, hown, hts, hlk, hst, hK, hG, hRm, htb, hnm⟩ := X
  intro lsl stl h r hf
  unfold mo_callV at hf
  split at hf
  · rename_i a as has
    obtain ⟨hq, hf⟩ := bq hf
    obtain rfl := Option.some.inj hf
    obtain ⟨hq1, hq⟩ := b2 hq
    obtain ⟨hq2, hq3⟩ := b2 hq
    have hq2 : as.length = n := Nat.eq_of_beq_eq_true hq2
    have hlen : n + 1 ≤ stl.length := by
      have := congrArg List.length has
      rw [List.length_reverse, List.length_take, List.length_cons] at this
      omega
    have hstk : stl.map (eV B b) = (as.map (eV B b)).reverse ++ (.ref (adr B b a) :: (stl.drop (n + 1)).map (eV B b)) := by
      rw [st_S (n := n + 1) hlen, has]
      simp [eV, eR, va_rf]
    intro d' o h1 hd' hc1 hs1 hc2 hs2 hL11 hM
    have hRc := room_c hRm hd' hL11
    refine so_run (i := i) hd' hc1 hs1 hc2 hs2 hM fun H locs ls cells slots Qc XC hH hS hls hf9 hM9 => ?_
    have hPc : ∀ U : State, U.heap = H → s.WarmedH U.vm → PcM B b L xs D aC (vR (some a) :: as) h (Value.ref (adr B b a) :: as.map (eV B b)).toArray U := fun U hU hW => pc_here hK hG hH hS hU hW
    exact vx_runI ⟨hx, hb, hml, hown, hts⟩ hM9 (⟨callB_of n hts (wc_good w4) (by rw [wc_code h0, ht0]) rfl rfl (hts _ w3) (hts _ w1) hd0 hRc, hini, hts _ w2⟩) ⟨pc_blind, hPc⟩ rfl (by rw [List.length_map]; exact hq2) (by show ls.size = _; exact hls) hstk (lv_room (roomy_c hq3)) hd hf9
  · cases hf

theorem so_callIN {i cn n index : Nat} {host : String} (X : Cx B b L xs D aC p l R s m args meth c md d) (h0 : dH (P i) = []) (ht0 : dT (P i) = none) (hini : (dY (P i)).name = "<init>") (w1 : Cond.methodLinkNest (dY md).cls index (dY (P i)) host ∈ w_bad) (w2 : Cond.instanceMethod (dY (P i)) ∈ w_all) (w3 : Cond.initialized (dY (P i)).cls ∈ w_all) (hd0 : (dY (P i)).cls ≠ "java/lang/invoke/MethodHandle" ∧ (dY (P i)).cls ≠ "java/lang/invoke/VarHandle" ∧ (parseMethodDescriptor (dY (P i)).desc).map (fun d => d.parameters.length) = some n) (w4 : wC (P i) ∈ w_all) (hd : decode (dB md) pc = .ok (.invokespecial index, 3)) : SO P B b L xs D aC p l e R s m args below meth c md d c0 s0 Q pc (mo_callV i cn n (pc + 3)) := by
  obtain ⟨hx, hb, hml, hown, hts, hlk, hst, hK, hG, hRm, htb, hnm⟩ := X
  intro lsl stl h r hf
  unfold mo_callV at hf
  split at hf
  · rename_i a as has
    obtain ⟨hq, hf⟩ := bq hf
    obtain rfl := Option.some.inj hf
    obtain ⟨hq1, hq⟩ := b2 hq
    obtain ⟨hq2, hq3⟩ := b2 hq
    have hq2 : as.length = n := Nat.eq_of_beq_eq_true hq2
    have hlen : n + 1 ≤ stl.length := by
      have := congrArg List.length has
      rw [List.length_reverse, List.length_take, List.length_cons] at this
      omega
    have hstk : stl.map (eV B b) = (as.map (eV B b)).reverse ++ (.ref (adr B b a) :: (stl.drop (n + 1)).map (eV B b)) := by
      rw [st_S (n := n + 1) hlen, has]
      simp [eV, eR, va_rf]
    intro d' o h1 hd' hc1 hs1 hc2 hs2 hL11 hM
    have hRc := room_c hRm hd' hL11
    refine so_run (i := i) hd' hc1 hs1 hc2 hs2 hM fun H locs ls cells slots Qc XC hH hS hls hf9 hM9 => ?_
    have hPc : ∀ U : State, U.heap = H → s.WarmedH U.vm → PcM B b L xs D aC (vR (some a) :: as) h (Value.ref (adr B b a) :: as.map (eV B b)).toArray U := fun U hU hW => pc_here hK hG hH hS hU hW
    exact vx_runIN ⟨hx, hb, hml, hown, hts⟩ hM9 (⟨va_cnB n hts (wc_good w4) (by rw [wc_code h0, ht0]) rfl rfl (hG.2.2.2.2.2.1 _ w1) (hts _ w3) hd0 hRc, hini, hts _ w2⟩) ⟨pc_blind, hPc⟩ rfl (by rw [List.length_map]; exact hq2) (by show ls.size = _; exact hls) hstk (lv_room (roomy_c hq3)) hd hf9
  · cases hf

theorem so_callU {i1 i2 cn1 cn2 n index : Nat} {q1 q2 : vw_C} {x : MethodName} (X : Cx B b L xs D aC p l R s m args meth c md d) (g1 : dH (P i1) = []) (g2 : dH (P i2) = []) (hcl1 : vwCl[cn1]? = some q1) (hcl2 : vwCl[cn2]? = some q2) (w1 : Cond.methodLink (dY md).cls index x ∈ w_all) (w2 : Cond.sameMethod x.cls x.cls x.name x.desc ∈ w_all) (w3 : Cond.selects q1.1 x (dY (P i1)) ∈ w_all) (w4 : Cond.selects q2.1 x (dY (P i2)) ∈ w_all) (w5 : Cond.instanceMethod (dY (P i1)) ∈ w_all) (w6 : Cond.instanceMethod (dY (P i2)) ∈ w_all)
    (w7 : Cond.initialized (dY (P i1)).cls ∈ w_all) (w8 : Cond.initialized (dY (P i2)).cls ∈ w_all) (w9 : Cond.declares x ∈ w_bad) (hd0 : x.cls ≠ "java/lang/invoke/MethodHandle" ∧ x.cls ≠ "java/lang/invoke/VarHandle" ∧ (parseMethodDescriptor x.desc).map (fun d => d.parameters.length) = some n) (wa : wC (P i1) ∈ w_all) (wb : wC (P i2) ∈ w_all) (hd : decode (dB md) pc = .ok (.invokevirtual index, 3)) : SO P B b L xs D aC p l e R s m args below meth c md d c0 s0 Q pc (mo_callU i1 cn1 i2 cn2 n (pc + 3)) := by
  obtain ⟨hx, hb, hml, hown, hts, hlk, hst, hK, hG, hRm, htb, hnm⟩ := X
  intro lsl stl h r hf
  unfold mo_callU at hf
  split at hf
  · rename_i a as has
    obtain ⟨hq, hf⟩ := bq hf
    obtain ⟨hq2, hq3⟩ := b2 hq
    have hq2 : as.length = n := Nat.eq_of_beq_eq_true hq2
    have hlen : n + 1 ≤ stl.length := by
      have := congrArg List.length has
      rw [List.length_reverse, List.length_take, List.length_cons] at this
      omega
    have hstk : stl.map (eV B b) = (as.map (eV B b)).reverse ++ (.ref (adr B b a) :: (stl.drop (n + 1)).map (eV B b)) := by
      rw [st_S (n := n + 1) hlen, has]
      simp [eV, eR, va_rf]
    cases hk1 : kq h a 0 cn1 with
    | true =>
      rw [hk1] at hf
      obtain rfl := Option.some.inj hf
      intro d' o h1 hd' hc1 hs1 hc2 hs2 hL11 hM
      have hRc := room_c hRm hd' hL11
      refine so_run (i := i1) hd' hc1 hs1 hc2 hs2 hM fun H locs ls cells slots Qc XC hH hS hls hf9 hM9 => ?_
      have hPc : ∀ U : State, U.heap = H → s.WarmedH U.vm → PcM B b L xs D aC (vR (some a) :: as) h (Value.ref (adr B b a) :: as.map (eV B b)).toArray U := fun U hU hW => pc_here hK hG hH hS hU hW
      have hrv : ∃ cell : Cell, H[adr B b a]? = some cell ∧ cell.vm.isStatics = false ∧ s.vm.findClass q1.1 = some cell.cls := va_recv hK (va_1 (hr_0 hH (kq_k hk1)).2) hcl1 (q0 := 0) rfl
      exact vx_runU (C := q1.1) (owner := x.cls) (x := x) ⟨hx, hb, hml, hown, hts⟩ hM9 (va_cwA n hts (g_cons w1 (g_cons w2 (g_cons w3 (g_cons w5 (g_cons w7 (wc_good wa)))))) (by rw [wc_code g1]) rfl rfl (hG.2.2.2.2.2.1 _ w9) hd0 hRc) ⟨pc_blind, hrv, hPc⟩ rfl (by rw [List.length_map]; exact hq2) (by show ls.size = _; exact hls) hstk (lv_room (roomy_c hq3)) hd hf9
    | false =>
      rw [hk1] at hf
      obtain ⟨hk2, hf⟩ := bq (show (bif kq h a 0 cn2 then _ else none) = some r from hf)
      obtain rfl := Option.some.inj hf
      intro d' o h1 hd' hc1 hs1 hc2 hs2 hL11 hM
      have hRc := room_c hRm hd' hL11
      refine so_run (i := i2) hd' hc1 hs1 hc2 hs2 hM fun H locs ls cells slots Qc XC hH hS hls hf9 hM9 => ?_
      have hPc : ∀ U : State, U.heap = H → s.WarmedH U.vm → PcM B b L xs D aC (vR (some a) :: as) h (Value.ref (adr B b a) :: as.map (eV B b)).toArray U := fun U hU hW => pc_here hK hG hH hS hU hW
      have hrv : ∃ cell : Cell, H[adr B b a]? = some cell ∧ cell.vm.isStatics = false ∧ s.vm.findClass q2.1 = some cell.cls := va_recv hK (va_1 (hr_0 hH (kq_k hk2)).2) hcl2 (q0 := 0) rfl
      exact vx_runU (C := q2.1) (owner := x.cls) (x := x) ⟨hx, hb, hml, hown, hts⟩ hM9 (va_cwA n hts (g_cons w1 (g_cons w2 (g_cons w4 (g_cons w6 (g_cons w8 (wc_good wb)))))) (by rw [wc_code g2]) rfl rfl (hG.2.2.2.2.2.1 _ w9) hd0 hRc) ⟨pc_blind, hrv, hPc⟩ rfl (by rw [List.length_map]; exact hq2) (by show ls.size = _; exact hls) hstk (lv_room (roomy_c hq3)) hd hf9
  · cases hf

theorem so_iret (X : Cx B b L xs D aC p l R s m args meth c md d) (hr0 : dT md = some .int) (hd : decode (dB md) pc = .ok (.ireturn, 1)) : SO P B b L xs D aC p l e R s m args below meth c md d c0 s0 Q pc mo_iret := by
  obtain ⟨hx, hb, hml, hown, hts, hlk, hst, hK, hG, hRm, htb, hnm⟩ := X
  intro lsl stl h r hf
  unfold mo_iret at hf
  split at hf
  · rename_i x
    obtain rfl := Option.some.inj hf
    refine ⟨rfl, fun kk H locs ls cells slots hH hS hl hc hs => kk H locs ls cells slots pc .ireturn hH hS hc hs hd (Or.inl ⟨rfl, x, rfl, Or.inl hr0⟩)⟩
  · cases hf

theorem so_zret (X : Cx B b L xs D aC p l R s m args meth c md d) (hr0 : dT md = some .boolean) (hd : decode (dB md) pc = .ok (.ireturn, 1)) : SO P B b L xs D aC p l e R s m args below meth c md d c0 s0 Q pc mo_zret := by
  obtain ⟨hx, hb, hml, hown, hts, hlk, hst, hK, hG, hRm, htb, hnm⟩ := X
  intro lsl stl h r hf
  unfold mo_zret at hf
  split at hf
  · rename_i x
    obtain ⟨hz, hf⟩ := bq hf
    have hz : x = 0 ∨ x = 1 := by simpa using hz
    obtain rfl := Option.some.inj hf
    refine ⟨rfl, fun kk H locs ls cells slots hH hS hl hc hs => kk H locs ls cells slots pc .ireturn hH hS hc hs hd (Or.inl ⟨rfl, x, rfl, Or.inr ⟨hr0, hz⟩⟩)⟩
  · cases hf

theorem so_lret (X : Cx B b L xs D aC p l R s m args meth c md d) (hr0 : dT md = some .long) (hd : decode (dB md) pc = .ok (.lreturn, 1)) : SO P B b L xs D aC p l e R s m args below meth c md d c0 s0 Q pc mo_lret := by
  obtain ⟨hx, hb, hml, hown, hts, hlk, hst, hK, hG, hRm, htb, hnm⟩ := X
  intro lsl stl h r hf
  unfold mo_lret at hf
  split at hf
  · rename_i x
    obtain rfl := Option.some.inj hf
    refine ⟨rfl, fun kk H locs ls cells slots hH hS hl hc hs => kk H locs ls cells slots pc .lreturn hH hS hc hs hd (Or.inr (Or.inl ⟨rfl, x, rfl, hr0⟩))⟩
  · cases hf

theorem so_aret (X : Cx B b L xs D aC p l R s m args meth c md d) (hr0 : ∃ C : String, dT md = some (.object C)) (hd : decode (dB md) pc = .ok (.areturn, 1)) : SO P B b L xs D aC p l e R s m args below meth c md d c0 s0 Q pc mo_aret := by
  obtain ⟨hx, hb, hml, hown, hts, hlk, hst, hK, hG, hRm, htb, hnm⟩ := X
  intro lsl stl h r hf
  unfold mo_aret at hf
  split at hf
  · rename_i x
    obtain rfl := Option.some.inj hf
    refine ⟨rfl, fun kk H locs ls cells slots hH hS hl hc hs => kk H locs ls cells slots pc .areturn hH hS hc hs hd (Or.inr (Or.inr (Or.inl ⟨rfl, x, hr0.choose, rfl, hr0.choose_spec⟩)))⟩
  · cases hf

theorem so_vret (X : Cx B b L xs D aC p l R s m args meth c md d) (hr0 : dT md = none) (hd : decode (dB md) pc = .ok (.return_, 1)) : SO P B b L xs D aC p l e R s m args below meth c md d c0 s0 Q pc mo_vret := by
  obtain ⟨hx, hb, hml, hown, hts, hlk, hst, hK, hG, hRm, htb, hnm⟩ := X
  intro lsl stl h r hf
  unfold mo_vret at hf
  split at hf
  · skip
    obtain rfl := Option.some.inj hf
    refine ⟨rfl, fun kk H locs ls cells slots hH hS hl hc hs => kk H locs ls cells slots pc .return_ hH hS hc hs hd (Or.inr (Or.inr (Or.inr ⟨rfl, rfl, hr0⟩)))⟩
  · cases hf

end SOC
end
section
/-! ===== throws, handlers ===== -/
section SOE
variable {P : Nat → mMD} {B b L : Nat} {xs : Nat → Int32} {D : va_G} {aC : Nat → ClassId} {p : Program} {l : Launch} {e : Env} {R : Room} {s : State} {m : MethodId} {args : Array Value} {below : List Frame} {meth : Method} {c : Code} {md : mMD} {d c0 s0 : Nat} {Q : State → Prop} {pc : Nat}

theorem w_tab {w : Cond} (h : w_nst w = true) : w.onTables = true := by
  cases w with
  | fieldLinkNest a i b n d h0 => rfl
  | methodLinkNest a i x h0 => rfl
  | castable C T => rfl
  | declares x => rfl
  | _ => cases h
theorem w_use {w : Cond} (hw : w ∈ w_bad) (h : va_Nw w s) : w.before args s = true := va_Nw.use (w_tab (List.mem_filter.mp hw).2) h
theorem en_fit : ∀ E : Nat, E < 3 → Bundle.fit (en E) = true := by
  intro E hE
  rcases (show E = 0 ∨ E = 1 ∨ E = 2 by omega) with rfl | rfl | rfl
  · show Bundle.fit "java/lang/IllegalArgumentException" = true
    decide +kernel
  · show Bundle.fit "java/lang/IllegalStateException" = true
    decide +kernel
  · show Bundle.fit "java/lang/IndexOutOfBoundsException" = true
    decide +kernel
def w_ex (own : String) (ic E : Nat) : Bool := (vx_atS own ic (en E) ["java/lang/RuntimeException", "java/lang/Exception"]).all (fun w => decide (w ∈ lw_tbl) && (goodWord w || w_nst w) && vx_ot w)
theorem hr_thr {h : mMH} {H H1 : Heap} (hH : HR B b D aC h H) (hz : H.size ≤ H1.size) (ho : ∀ q : Nat, q < H.size → H1[q]? = H[q]?) : HR B b D aC (thr h) H1 := by
  obtain ⟨⟨z1, z2, z3⟩, k1, c1⟩ := hH
  refine ⟨⟨fun z => Bool.noConfusion (show false = true from z), Nat.le_trans z2 hz, z3⟩, k1, fun k h9 => ?_⟩
  have := k1 k h9
  exact (c1 k h9).kept (ho _ (by show B + k < H.size; omega))
theorem so_thr {E ik is ic : Nat} {text : String} (X : Cx B b L xs D aC p l R s m args meth c md d) (hh : dH md = []) (hE : E < 3) (hs : (is, text) ∈ w_str) (hc : (dY md).cls = "Trellistag") (w1 : Cond.classLink (dY md).cls ik (en E) ∈ w_all) (w2 : Cond.initialized (en E) ∈ w_all) (hat : w_ex "Trellistag" ic E = true)
    (d0 : decode (dB md) pc = .ok (.new ik, 3)) (d3 : decode (dB md) (pc + 3) = .ok (.dup, 1)) (d4 : decode (dB md) (pc + 4) = .ok (.ldc is, 2)) (d6 : decode (dB md) (pc + 6) = .ok (.invokespecial ic, 3)) (d9 : decode (dB md) (pc + 9) = .ok (.athrow, 1)) : SO P B b L xs D aC p l e R s m args below meth c md d c0 s0 Q pc (mo_thr E) := by
  obtain ⟨hx, hb, hml, hown, hts, hlk, hst, hK, hG, hRm, htb, hnm⟩ := X
  intro lsl stl h r hf
  unfold mo_thr at hf
  obtain ⟨hq, hf⟩ := bq hf
  obtain rfl := Option.some.inj hf
  refine ⟨⟨Nat.le_succ _, Nat.le_add_right _ _⟩, fun hd7 hc1 hs1 hTQ H locs ls cells slots hH hS hl hc0 hs0 => ?_⟩
  obtain ⟨Qc, XC, mc, ms, rfl, hXC, hmc, hms⟩ := hTQ
  have hc1 : mC h + 1 ≤ c0 + R.cells := hc1
  have hs1 : mSl h + 6 ≤ s0 + R.slots := hs1
  have hmc : mC h + 1 ≤ c0 + mc := hmc
  have hms : mSl h + 6 ≤ s0 + ms := hms
  obtain ⟨sa, hsa⟩ := hG.2.2.2.2.1 _ hs
  have hw : ∀ w ∈ vx_atS (dY md).cls ic (en E) ["java/lang/RuntimeException", "java/lang/Exception"], w.before args s = true ∧ vx_ot w = true := fun w hw => by
    rw [hc] at hw
    have h9 := List.all_eq_true.mp hat w hw
    rw [Bool.and_eq_true, Bool.and_eq_true, decide_eq_true_eq, Bool.or_eq_true] at h9
    refine ⟨?_, h9.2⟩
    rcases h9.1.2 with z | z
    · exact hts w (List.mem_filter.mpr ⟨h9.1.1, z⟩)
    · exact w_use (List.mem_filter.mpr ⟨h9.1.1, z⟩) (hG.2.2.2.2.2.1 w (List.mem_filter.mpr ⟨h9.1.1, z⟩))
  have hfit : Bundle.fit (en E) = true := en_fit E hE
  have hrc := roomy_c (B := B) (b := b) hq
  refine vx_throwS (names := ["java/lang/RuntimeException", "java/lang/Exception"]) hx hb hst hown hfit (by decide +kernel) (hts _ w1) (hts _ w2) (by rw [hc]; exact hsa) (fun w h9 => (hw w h9).1) (fun w h9 => ?_) hG.2.2.1 hG.2.2.2.1 hS (hl.choose_spec.1.1.trans hml.symm) d0 d3 d4 d6 d9 (by rw [htb, hh]; intro x h9; cases h9) (by show 2 + 3 < R.frames; omega) (by show _ + (13 * (2 + 1) + 43) ≤ R.locals; omega) (by omega) (by omega) hlk (fun t ht hz ho => ?_) hS.2.2 (by omega) (by omega)
  · rcases List.mem_cons.mp h9 with rfl | h9
    · rfl
    · rcases List.mem_cons.mp h9 with rfl | h9
      · rfl
      · exact (hw w h9).2
  · refine hXC t ht (hr_thr hH hz ho) ⟨Nat.le_trans hS.1 hz, fun q h1 h2 => ?_⟩
    rw [ho q (Nat.lt_of_lt_of_le h1 hS.1)]
    exact hS.2.1 q h1 h2
/-- a handler that answers k -/
theorem wx_catch {E st en0 hpc ct n len0 : Nat} {k : Int} {pre suf : List (Nat × Nat × Nat × Nat)} {lsl : mLS} {h1 : mMH} (X : Cx B b L xs D aC p l R s m args meth c md d) (hE : E < 3) (hh : dH md = pre ++ (st, en0, hpc, ct) :: suf) (hcv : hcov (dH md) pc = true) (hct : ct ≠ 0) (hpass : ∀ z ∈ pre, z.2.2.2 ≠ 0 ∧ ∃ F, F < 3 ∧ E ≠ F ∧ Cond.classLink (dY md).cls z.2.2.2 (en F) ∈ w_all)
    (w1 : Cond.classLink (dY md).cls ct (en E) ∈ w_all) (w2 : Cond.castable (en E) (en E) ∈ w_bad) (hr0 : dT md = some .int) (hn : n < dL md)
    (d0 : (∃ f : Fin 4, (f : Nat) = n ∧ decode (dB md) hpc = .ok (.astore_n f, 1) ∧ len0 = 1) ∨ (decode (dB md) hpc = .ok (.astore n, 2) ∧ len0 = 2)) (d1 : decode (dB md) (hpc + len0) = .ok (.iconst k, 1)) (d2 : decode (dB md) (hpc + len0 + 1) = .ok (.ireturn, 1)) (kk : WR B b D aC p l e R s m args below meth c md c0 s0 Q (some (vI k)) h1) : WX B b D aC p l e R s m args below meth c md c0 s0 Q E pc lsl h1 := by
  obtain ⟨hx, hb, hml, hown, hts, hlk, hst, hK, hG, hRm, htb, hnm⟩ := X
  intro H locs ls cells slots rest q ce hH hS hl hc hs hce hcv0 hcl
  have cov : ∀ z ∈ dH md, covers (⟨z.1, z.2.1, z.2.2.1, z.2.2.2⟩ : ExceptionTableEntry) pc = true := fun z hz => by
    have := List.all_eq_true.mp hcv z hz
    rw [Bool.and_eq_true] at this
    have q1 : z.1 ≤ pc := Nat.ble_eq.mp this.1
    have q2 : pc < z.2.1 := Nat.ble_eq.mp this.2
    simp [covers, q1, q2]
  refine vx_catch hown (tableOf pre) ⟨st, en0, hpc, ct⟩ (tableOf suf) (by rw [htb, hh]; simp [tableOf]) (fun z hz => ?_) (cov (st, en0, hpc, ct) (by rw [hh]; simp)) hct (hts _ w1) (w_use w2 (hG.2.2.2.2.2.1 _ w2)) hce hcv0 hcl ?_
  · obtain ⟨z0, h0, rfl⟩ := List.mem_map.mp hz
    obtain ⟨f1, F, f2, f3, f4⟩ := hpass z0 h0
    exact Or.inr ⟨f1, en F, hts _ f4, hG.2.2.2.2.2.2.2 E F hE f2 f3⟩
  · obtain ⟨lv, l1, l2, l3⟩ := hl
    have kf : ∀ ls9 : Array Slot, W p l e R s m args below meth c H locs cells slots Q (F0 m (hpc + len0) ls9 []) := fun ls9 => by
      refine lv_iconst hx hb d1 rfl ?_
      exact kk H locs ls9 cells slots _ _ hH hS hc hs d2 (Or.inl ⟨rfl, k, rfl, Or.inl hr0⟩)
    rcases d0 with ⟨f, rfl, d0, rfl⟩ | ⟨d0, rfl⟩
    · exact lv_astore_n hx hb d0 rfl l1 hn rfl (fun ls9 _ => kf ls9)
    · exact lv_astore hx hb d0 l1 hn rfl (fun ls9 _ => kf ls9)
end SOE
end
section
/-! ===== a run of the small machine is a run of the machine ===== -/
def AllS (P : Nat → mMD) (L : Nat) (xs : Nat → Int32) : Prop := ∀ (j pc : Nat) (f : mOP), lk (dC (P j)) pc = some f → ∀ (B b : Nat) (D : va_G) (aC : Nat → ClassId) (p : Program) (l : Launch) (e : Env) (R : Room) (s : State) (m : MethodId) (args : Array Value) (below : List Frame) (meth : Method) (c : Code) (d c0 s0 : Nat) (Q : State → Prop), Cx B b L xs D aC p l R s m args meth c (P j) d → SO P B b L xs D aC p l e R s m args below meth c (P j) d c0 s0 Q pc f
def AllM (P : Nat → mMD) (L : Nat) (xs : Nat → Int32) : Prop := ∀ j : Nat, dL (P j) ≤ 11 ∧ plainName (dY (P j)).cls = true ∧ ((dX (P j) = [] ∧ dH (P j) = []) ∨ (dX (P j) ≠ [] ∧ dH (P j) ≠ [] ∧ ∀ (E : Nat) (k : Int), lx (dX (P j)) E = some k → ∀ (B b : Nat) (D : va_G) (aC : Nat → ClassId) (p : Program) (l : Launch) (e : Env) (R : Room) (s : State) (m : MethodId) (args : Array Value) (below : List Frame) (meth : Method) (c : Code) (d c0 s0 : Nat) (Q : State → Prop) (pc : Nat) (lsl : mLS) (h1 : mMH), Cx B b L xs D aC p l R s m args meth c (P j) d → hcov (dH (P j)) pc = true →
    WR B b D aC p l e R s m args below meth c (P j) c0 s0 Q (some (vI k)) h1 → WX B b D aC p l e R s m args below meth c (P j) c0 s0 Q E pc lsl h1))
section SOZ
variable {P : Nat → mMD} {L : Nat} {xs : Nat → Int32}

theorem ent_len (B b : Nat) : ∀ as : List mMV, (lg_sl (as.map (eV B b))).length = (argL as).length
  | [] => rfl
  | .inl x :: r => by
    have := ent_len B b r
    simp only [lg_sl] at this ⊢
    simp [argL, eV, Value.category] at this ⊢
    exact this
  | .inr (.inl x) :: r => by
    have := ent_len B b r
    simp only [lg_sl] at this ⊢
    simp [argL, eV, Value.category] at this ⊢
    omega
  | .inr (.inr none) :: r => by
    have := ent_len B b r
    simp only [lg_sl] at this ⊢
    simp [argL, eV, eR, va_rf, Value.category] at this ⊢
    exact this
  | .inr (.inr (some k)) :: r => by
    have := ent_len B b r
    simp only [lg_sl] at this ⊢
    simp [argL, eV, eR, va_rf, Value.category] at this ⊢
    exact this
theorem ent_at (B b : Nat) : ∀ (as : List mMV) (o i : Nat) (v : mMV), (argL as)[i]? = some (some v) → (o + i, eV B b v) ∈ lv_args o (as.map (eV B b))
  | [], o, i, v, h => by simp [argL] at h
  | .inr (.inl x) :: r, o, i, v, h => by
    show _ ∈ (o, eV B b (.inr (.inl x))) :: lv_args (if (eV B b (.inr (.inl x))).category = 2 then o + 2 else o + 1) (r.map (eV B b))
    match i, h with
    | 0, h => cases h; exact List.mem_cons_self
    | 1, h => cases h
    | i + 2, h =>
      have := ent_at B b r (o + 2) i v h
      rw [show o + 2 + i = o + (i + 2) by omega] at this
      exact List.mem_cons_of_mem _ this
  | .inl x :: r, o, i, v, h => by
    show _ ∈ (o, eV B b (.inl x)) :: lv_args (if (eV B b (.inl x)).category = 2 then o + 2 else o + 1) (r.map (eV B b))
    match i, h with
    | 0, h => cases h; exact List.mem_cons_self
    | i + 1, h =>
      have := ent_at B b r (o + 1) i v h
      rw [show o + 1 + i = o + (i + 1) by omega] at this
      exact List.mem_cons_of_mem _ this
  | .inr (.inr k) :: r, o, i, v, h => by
    have hc : (eV B b (.inr (.inr k))).category = 1 := cat_eV B b _
    show _ ∈ (o, eV B b (.inr (.inr k))) :: lv_args (if (eV B b (.inr (.inr k))).category = 2 then o + 2 else o + 1) (r.map (eV B b))
    rw [hc]
    match i, h with
    | 0, h => cases h; exact List.mem_cons_self
    | i + 1, h =>
      have := ent_at B b r (o + 1) i v h
      rw [show o + 1 + i = o + (i + 1) by omega] at this
      exact List.mem_cons_of_mem _ this
theorem ent_ls {B b n : Nat} {as : List mMV} (hn : (argL as).length ≤ n) : lsR B b n (entL n as) ((lg_sl (as.map (eV B b)) ++ List.replicate (n - (lg_sl (as.map (eV B b))).length) Slot.unset).toArray) := by
  refine ⟨_, lv_entry (as.map (eV B b)) (by rw [ent_len]; exact hn), by unfold entL; simp; omega, fun i v h => ?_⟩
  unfold entL at h
  by_cases q : i < (argL as).length
  · rw [List.getElem?_append_left q] at h
    have := ent_at B b as 0 i v h
    rw [Nat.zero_add] at this
    exact this
  · rw [List.getElem?_append_right (by omega), List.getElem?_replicate] at h
    split at h
    · cases h
    · cases h
/-- what a frame owes at its end -/
def Fin9 (B b : Nat) (D : va_G) (aC : Nat → ClassId) (p : Program) (l : Launch) (e : Env) (R : Room) (s : State) (m : MethodId) (args : Array Value) (below : List Frame) (meth : Method) (c : Code) (md : mMD) (c0 s0 : Nat) (Q : State → Prop) (o : Option mMV ⊕ Nat) (h : mMH) : Prop := match o with
  | .inl v => WR B b D aC p l e R s m args below meth c md c0 s0 Q v h
  | .inr E => TQ B b D aC s args below c0 s0 Q E h
/-- what is to be shown of n steps -/
def RunW (P : Nat → mMD) (L : Nat) (xs : Nat → Int32) (n : Nat) : Prop := ∀ (d j pc : Nat) (lsl : mLS) (stl : mST) (h : mMH) (o : Option mMV ⊕ Nat) (h' : mMH), run P n d j pc lsl stl h = some (o, h') → ∀ (B b : Nat) (D : va_G) (aC : Nat → ClassId) (p : Program) (l : Launch) (e : Env) (R : Room) (s : State) (m : MethodId) (args : Array Value) (below : List Frame) (meth : Method) (c : Code) (c0 s0 : Nat) (Q : State → Prop),
  Cx B b L xs D aC p l R s m args meth c (P j) d → (mC h ≤ mC h' ∧ mSl h ≤ mSl h') ∧ (mC h' ≤ c0 + R.cells → mSl h' ≤ s0 + R.slots → Fin9 B b D aC p l e R s m args below meth c (P j) c0 s0 Q o h' → WP B b D aC p l e R s m args below meth c (P j) c0 s0 Q pc lsl stl h)
theorem wr_met {B b : Nat} {D : va_G} {aC : Nat → ClassId} {p : Program} {l : Launch} {e : Env} {R : Room} {s : State} {m : MethodId} {args : Array Value} {below : List Frame} {meth : Method} {c : Code} {md : mMD} {d : Nat} {v : Option mMV} {h h1 : mMH} {XC : String → State → State → Prop} (X : Cx B b L xs D aC p l R s m args meth c md d) (hr : meth.sig.returnType = dT md) :
    WR B b D aC p l e R s m args below meth c md (mC h) (mSl h) (vx_MQ below (QcM B b D aC v h1) XC args s (mC h1 - mC h) (mSl h1 - mSl h) (fun q => B < q)) v h1 := by
  obtain ⟨hx, hb, hml, hown, hts, hlk, hst, hK, hG, hRm, htb, hnm⟩ := X
  intro H locs ls cells slots pc ig hH hS hc hs hd hig
  have e1 : mC h1 - mC h = cells := by omega
  have e2 : mSl h1 - mSl h = slots := by omega
  rw [e1, e2]
  have hq : ∀ t : State, t.heap = H → s.WarmedH t.vm → QcM B b D aC v h1 args s (.returned (v.map (eV B b))) t := fun t ht hW => ⟨rfl, by rw [ht]; exact hH, hS.F ht⟩
  refine vx_ret ?_
  rcases hig with ⟨rfl, x, rfl, h9 | ⟨h9, hz⟩⟩ | ⟨rfl, x, rfl, h9⟩ | ⟨rfl, a, C, rfl, h9⟩ | ⟨rfl, rfl, h9⟩
  · exact W.iret (v := Int32.ofInt x) hx hb (hr.trans h9) hq hS.2.2 hd hlk
  · exact W.zret (v := Int32.ofInt x) hx hb (hr.trans h9) (by rcases hz with rfl | rfl <;> rfl) hq hS.2.2 hd hlk
  · exact W.lret (v := Int64.ofInt x) hx hb (hr.trans h9) hq hS.2.2 hd hlk
  · exact W.aret (v := .ref (adr B b a)) hx hb (hr.trans h9) (Or.inl ⟨C, rfl⟩) (Or.inr ⟨_, rfl⟩) hq hS.2.2 hd hlk
  · exact W.vret hx hb (hr.trans h9) hq hS.2.2 hd hlk
theorem cm_of {n d' i : Nat} {as : List mMV} {h h1 : mMH} {o : Option mMV ⊕ Nat} (hM : AllM P L xs) (IH : RunW P L xs n) (hrun : run P n d' i 0 (entL (dL (P i)) as) [] h = some (o, h1)) (hlen : (argL as).length ≤ dL (P i)) (hmc : mC h ≤ mC h1) (hms : mSl h ≤ mSl h1) (B b : Nat) (D : va_G) (aC : Nat → ClassId) (l : Launch) (hst : l.stackTraces = false) : CM B b L xs D aC l (P i) d' as h o h1 := by
  have key : ∀ (Qc : Array Value → State → Outcome → State → Prop) (XC : String → State → State → Prop), (∀ (p : Program) (e : Env) (R : Room) (s : State) (m : MethodId) (args : Array Value) (below : List Frame) (meth : Method) (c : Code), Cx B b L xs D aC p l R s m args meth c (P i) d' → meth.sig.returnType = dT (P i) → Fin9 B b D aC p l e R s m args below meth c (P i) (mC h) (mSl h) (vx_MQ below Qc XC args s (mC h1 - mC h) (mSl h1 - mSl h) (fun q => B < q)) o h1) →
      vx_Met l (dY (P i)) (wC (P i) :: w_all) { frames := d' + 1, cells := mC h1 - mC h, slots := mSl h1 - mSl h, locals := 106 + 30 * d' } (PcM B b L xs D aC as h) Qc XC (mC h1 - mC h) (mSl h1 - mSl h) (fun q => B < q) := by
    intro Qc XC hFin
    have body : ∀ (p : Program) (e : Env) (s : State) (m : MethodId) (args : Array Value) (below : List Frame) (meth : Method) (c : Code) (s₁ : State), BodyLoose p l (dY (P i)) (headSpec (wC (P i) :: w_all) { frames := d' + 1, cells := mC h1 - mC h, slots := mSl h1 - mSl h, locals := 106 + 30 * d' }) (dB (P i)) (dL (P i)) (dT (P i)) e s m args below meth c s₁ → c.maxLocals = dL (P i) → c.exceptionTable.toList = tableOf (dH (P i)) → PcM B b L xs D aC as h args s →
        W p l e { frames := d' + 1, cells := mC h1 - mC h, slots := mSl h1 - mSl h, locals := 106 + 30 * d' } s m args below meth c s.heap [] 0 0 (vx_MQ below Qc XC args s (mC h1 - mC h) (mSl h1 - mSl h) (fun q => B < q)) (entryFrame m args (dL (P i))) := by
      intro p e s m args below meth c s₁ Bd hml htb hPc
      obtain ⟨rfl, hH, hK, hG⟩ := hPc
      have hts := atoms_spec (ws := wC (P i) :: w_all) Bd.pre
      have X : Cx B b L xs D aC p l { frames := d' + 1, cells := mC h1 - mC h, slots := mSl h1 - mSl h, locals := 106 + 30 * d' } s m (as.map (eV B b)).toArray meth c (P i) d' := ⟨Bd.exec, Bd.bytes, hml, findClass_of_methodNamed Bd.named, fun w hw => hts w (List.mem_cons_of_mem _ hw), Bd.notSynchronized, hst, hK, hG, ⟨Nat.le_refl _, Nat.le_refl _⟩, htb, (name_of_methodNamed Bd.named Bd.method).1⟩
      have k := (IH d' i 0 _ _ h o h1 hrun B b D aC p l e _ s m _ below meth c (mC h) (mSl h) _ X).2 (by show mC h1 ≤ mC h + (mC h1 - mC h); omega) (by show mSl h1 ≤ mSl h + (mSl h1 - mSl h); omega) (hFin p e _ s m _ below meth c X Bd.returns)
      rw [lg_entry_eq]
      exact k s.heap [] _ 0 0 hH va_S.rf (ent_ls hlen) rfl rfl
    obtain ⟨hL11, hpl, hXH⟩ := hM i
    cases hq : dH (P i) with
    | nil =>
      refine vx_ofW (cc := dB (P i)) (maxL := dL (P i)) (ret := dT (P i)) hpl (by rw [wc_code hq]) fun p e s m args below meth c s₁ Bd hml hno hPc => body p e s m args below meth c s₁ Bd hml ?_ hPc
      rw [hq]
      cases hz : c.exceptionTable.toList with
      | nil => rfl
      | cons a r => exact absurd (hno a (by rw [hz]; exact List.mem_cons_self)) id
    | cons q0 qs =>
      refine vx_ofWH (cc := dB (P i)) (maxL := dL (P i)) (ret := dT (P i)) (hh := q0 :: qs) hpl (by unfold wC; rw [hq]) fun p e s m args below meth c s₁ Bd hml hPc => body p e s m args below meth c s₁ Bd hml ?_ hPc
      rw [hq]
      exact vx_table (x := dY (P i)) Bd (atoms_spec (ws := wC (P i) :: w_all) Bd.pre _ (by unfold wC; rw [hq]; exact List.mem_cons_self))
  cases o with
  | inl v => exact key _ _ fun p e R s m args below meth c X hr => wr_met X hr
  | inr E => exact key _ _ fun p e R s m args below meth c X hr => ⟨_, _, _, _, rfl, fun t ht hh hF => ⟨rfl, hh, hF⟩, by omega, by omega⟩
theorem run_W (hS : AllS P L xs) (hM : AllM P L xs) : ∀ n, RunW P L xs n := by
  intro n
  induction n with
  | zero => intro d j pc lsl stl h o h' hrun; cases hrun
  | succ n IH =>
    intro d j pc lsl stl h o h' hrun B b D aC p l e R s m args below meth c c0 s0 Q X
    unfold run at hrun
    split at hrun
    · cases hrun
    · rename_i f hf
      have hso := hS j pc f hf B b D aC p l e R s m args below meth c d c0 s0 Q X
      split at hrun
      · cases hrun
      · rename_i q hq
        obtain ⟨⟨a1, a2⟩, a3⟩ := hso lsl stl h _ hq
        obtain ⟨⟨b1, b2⟩, b3⟩ := IH _ _ _ _ _ _ _ _ hrun B b D aC p l e R s m args below meth c c0 s0 Q X
        exact ⟨⟨Nat.le_trans a1 b1, Nat.le_trans a2 b2⟩, fun g1 g2 g3 => a3 (Nat.le_trans b1 g1) (Nat.le_trans b2 g2) (b3 g1 g2 g3)⟩
      · rename_i q hq
        obtain ⟨rfl, rfl⟩ := Prod.mk.inj (Option.some.inj hrun)
        obtain ⟨a1, a2⟩ := hso lsl stl h _ hq
        rw [a1]
        exact ⟨⟨Nat.le_refl _, Nat.le_refl _⟩, fun g1 g2 g3 => a2 g3⟩
      · rename_i q hq
        obtain ⟨h7, hrun⟩ := bq hrun
        obtain ⟨rfl, rfl⟩ := Prod.mk.inj (Option.some.inj hrun)
        obtain ⟨a1, a2⟩ := hso lsl stl h _ hq
        exact ⟨a1, fun g1 g2 g3 => a2 (Nat.ble_eq.mp h7) g1 g2 g3⟩
      · rename_i q hq
        have hcall := hso lsl stl h _ hq
        split at hrun
        · cases hrun
        · rename_i d'
          obtain ⟨hlen, hrun⟩ := bq hrun
          have hlen := Nat.ble_eq.mp hlen
          split at hrun
          · cases hrun
          · rename_i v h1 hr1
            obtain ⟨hm, hrun⟩ := bq hrun
            obtain ⟨hm1, hm2⟩ := b2 hm
            have hm1 := Nat.ble_eq.mp hm1
            have hm2 := Nat.ble_eq.mp hm2
            obtain ⟨⟨b1, b2⟩, b3⟩ := IH _ _ _ _ _ _ _ _ hrun B b D aC p l e R s m args below meth c c0 s0 Q X
            refine ⟨⟨Nat.le_trans hm1 b1, Nat.le_trans hm2 b2⟩, fun g1 g2 g3 => ?_⟩
            exact hcall d' (.inl v) h1 rfl hm1 hm2 (Nat.le_trans b1 g1) (Nat.le_trans b2 g2) (hM _).1 (cm_of hM IH hr1 hlen hm1 hm2 B b D aC l X.2.2.2.2.2.2.1) (b3 g1 g2 g3)
          · rename_i E h1 hr1
            obtain ⟨hm, hrun⟩ := bq hrun
            obtain ⟨hm1, hm2⟩ := b2 hm
            have hm1 := Nat.ble_eq.mp hm1
            have hm2 := Nat.ble_eq.mp hm2
            have hMj := (hM j).2.2
            split at hrun
            · rename_i hX0
              obtain ⟨rfl, rfl⟩ := Prod.mk.inj (Option.some.inj hrun)
              refine ⟨⟨hm1, hm2⟩, fun g1 g2 g3 => ?_⟩
              refine hcall d' (.inr E) h1 rfl hm1 hm2 g1 g2 (hM _).1 (cm_of hM IH hr1 hlen hm1 hm2 B b D aC l X.2.2.2.2.2.2.1) ?_
              obtain ⟨Qc, XC, mc, ms, rfl, hXC, hmc, hms⟩ := g3
              have hH0 : dH (P j) = [] := by
                rcases hMj with z | z
                · exact z.2
                · exact absurd hX0 z.1
              intro H locs ls cells slots rest q9 ce hH hS9 hl hc hs hce hcv hcl
              exact vx_out (by rw [X.2.2.2.2.2.2.2.2.2.2.1, hH0]; intro x hx; cases hx) X.2.2.2.2.2.1 hce hcv hcl (fun t ht hal => hXC t hal (by rw [ht]; exact hH) (hS9.F ht)) hS9.2.2 (by omega) (by omega)
            · rename_i q0 qs hX0
              split at hrun
              · cases hrun
              · rename_i k hk
                obtain ⟨hcv, hrun⟩ := bq hrun
                obtain ⟨rfl, rfl⟩ := Prod.mk.inj (Option.some.inj hrun)
                refine ⟨⟨hm1, hm2⟩, fun g1 g2 g3 => ?_⟩
                refine hcall d' (.inr E) h1 rfl hm1 hm2 g1 g2 (hM _).1 (cm_of hM IH hr1 hlen hm1 hm2 B b D aC l X.2.2.2.2.2.2.1) ?_
                rcases hMj with z | z
                · rw [z.1] at hX0; cases hX0
                · exact z.2.2 E k (by rw [hX0]; exact hk) B b D aC p l e R s m args below meth c _ c0 s0 Q pc lsl h1 X hcv g3
end SOZ
end
section
/-! ===== the methods as the small machine runs them: written by a program out of the printed names ===== -/
/-- 0: Trellistag$AllPaths.<init>(LTrellistag$Lattice;)V -/
def cd_0 : List (Nat × mOP) := [(0, mo_aload 0 1),
  (1, mo_callV 26 0 0 4),
  (4, mo_aload 0 5),
  (5, mo_const (vI 5) 6),
  (6, mo_newa 1 8),
  (8, mo_putR 0 1 11),
  (11, mo_aload 0 12),
  (12, mo_const (vI 6) 14),
  (14, mo_newa 2 16),
  (16, mo_putR 0 2 19),
  (19, mo_aload 0 20),
  (20, mo_const (vI 6) 22),
  (22, mo_newa 1 24),
  (24, mo_putR 0 3 27),
  (27, mo_aload 0 28),
  (28, mo_aload 1 29),
  (29, mo_putR 0 0 32),
  (32, mo_vret)]
def md_0 : mMD := ((yX0_init, cX0_init, 2, none), ([], []), cd_0)
/-- 1: Trellistag$AllPaths.rankInto(LTrellistag$Ranking;)V -/
def cd_1 : List (Nat × mOP) := [(0, mo_aload 0 1),
  (1, mo_getR 0 0 4),
  (4, mo_callV 22 2 0 7),
  (7, mo_istore 2 8),
  (8, mo_aload 0 9),
  (9, mo_callV 3 0 0 12),
  (12, mo_istore 3 13),
  (13, mo_aload 0 14),
  (14, mo_callV 4 0 0 17),
  (17, mo_const (vI 0) 18),
  (18, mo_istore 4 20),
  (20, mo_iload 4 22),
  (22, mo_iload 3 23),
  (23, mo_icmp 3 52 26),
  (26, mo_aload 1 27),
  (27, mo_aload 0 28),
  (28, mo_getR 0 2 31),
  (31, mo_iload 2 32),
  (32, mo_lald 33),
  (33, mo_aload 0 34),
  (34, mo_getR 0 3 37),
  (37, mo_iload 2 38),
  (38, mo_iald 39),
  (39, mo_callV 29 3 2 42),
  (42, mo_aload 0 43),
  (43, mo_callV 5 0 0 46),
  (46, mo_iinc 4 1 49),
  (49, mo_goto 20),
  (52, mo_vret)]
def md_1 : mMD := ((yX0_rankInto, cX0_rankInto, 5, none), ([], []), cd_1)
/-- 2: Trellistag$AllPaths.sumInto([JI)V -/
def cd_2 : List (Nat × mOP) := [(0, mo_const (vI 0) 1),
  (1, mo_istore 3 2),
  (2, mo_iload 3 3),
  (3, mo_const (vI 5) 4),
  (4, mo_icmp 3 17 7),
  (7, mo_aload 1 8),
  (8, mo_iload 3 9),
  (9, mo_const (vJ 0) 10),
  (10, mo_last 11),
  (11, mo_iinc 3 1 14),
  (14, mo_goto 2),
  (17, mo_aload 0 18),
  (18, mo_getR 0 0 21),
  (21, mo_callV 22 2 0 24),
  (24, mo_istore 3 25),
  (25, mo_aload 0 26),
  (26, mo_callV 3 0 0 29),
  (29, mo_istore 4 31),
  (31, mo_aload 0 32),
  (32, mo_callV 4 0 0 35),
  (35, mo_const (vI 0) 36),
  (36, mo_istore 5 38),
  (38, mo_iload 5 40),
  (40, mo_iload 4 42),
  (42, mo_icmp 3 72 45),
  (45, mo_aload 1 46),
  (46, mo_aload 0 47),
  (47, mo_getR 0 1 50),
  (50, mo_iload 2 51),
  (51, mo_iald 52),
  (52, mo_dup2 53),
  (53, mo_lald 54),
  (54, mo_aload 0 55),
  (55, mo_getR 0 2 58),
  (58, mo_iload 3 59),
  (59, mo_lald 60),
  (60, mo_ladd 61),
  (61, mo_last 62),
  (62, mo_aload 0 63),
  (63, mo_callV 5 0 0 66),
  (66, mo_iinc 5 1 69),
  (69, mo_goto 38),
  (72, mo_vret)]
def md_2 : mMD := ((yX0_sumInto, cX0_sumInto, 6, none), ([], []), cd_2)
/-- 3: Trellistag$AllPaths.countPaths()I -/
def cd_3 : List (Nat × mOP) := [(0, mo_const (vI 1) 1),
  (1, mo_istore 1 2),
  (2, mo_const (vI 0) 3),
  (3, mo_istore 2 4),
  (4, mo_iload 2 5),
  (5, mo_aload 0 6),
  (6, mo_getR 0 0 9),
  (9, mo_callV 22 2 0 12),
  (12, mo_icmp 3 25 15),
  (15, mo_iload 1 16),
  (16, mo_const (vI 5) 17),
  (17, mo_imul 18),
  (18, mo_istore 1 19),
  (19, mo_iinc 2 1 22),
  (22, mo_goto 4),
  (25, mo_iload 1 26),
  (26, mo_iret)]
def md_3 : mMD := ((yX0_countPaths, cX0_countPaths, 3, (some .int)), ([], []), cd_3)
/-- 4: Trellistag$AllPaths.startWalk()V -/
def cd_4 : List (Nat × mOP) := [(0, mo_aload 0 1),
  (1, mo_getR 0 2 4),
  (4, mo_const (vI 0) 5),
  (5, mo_const (vJ 1) 6),
  (6, mo_last 7),
  (7, mo_aload 0 8),
  (8, mo_getR 0 3 11),
  (11, mo_const (vI 0) 12),
  (12, mo_const (vI 0) 13),
  (13, mo_iast 14),
  (14, mo_const (vI 0) 15),
  (15, mo_istore 1 16),
  (16, mo_iload 1 17),
  (17, mo_aload 0 18),
  (18, mo_getR 0 0 21),
  (21, mo_callV 22 2 0 24),
  (24, mo_icmp 3 40 27),
  (27, mo_aload 0 28),
  (28, mo_getR 0 1 31),
  (31, mo_iload 1 32),
  (32, mo_const (vI 0) 33),
  (33, mo_iast 34),
  (34, mo_iinc 1 1 37),
  (37, mo_goto 16),
  (40, mo_aload 0 41),
  (41, mo_const (vI 0) 42),
  (42, mo_callV 6 0 1 45),
  (45, mo_vret)]
def md_4 : mMD := ((yX0_startWalk, cX0_startWalk, 2, none), ([], []), cd_4)
/-- 5: Trellistag$AllPaths.goOn()V -/
def cd_5 : List (Nat × mOP) := [(0, mo_aload 0 1),
  (1, mo_getR 0 0 4),
  (4, mo_callV 22 2 0 7),
  (7, mo_const (vI 1) 8),
  (8, mo_isub 9),
  (9, mo_istore 1 10),
  (10, mo_iload 1 11),
  (11, mo_if 5 37 14),
  (14, mo_aload 0 15),
  (15, mo_getR 0 1 18),
  (18, mo_iload 1 19),
  (19, mo_iald 20),
  (20, mo_const (vI 4) 21),
  (21, mo_icmp 1 37 24),
  (24, mo_aload 0 25),
  (25, mo_getR 0 1 28),
  (28, mo_iload 1 29),
  (29, mo_const (vI 0) 30),
  (30, mo_iast 31),
  (31, mo_iinc 1 (-1) 34),
  (34, mo_goto 10),
  (37, mo_iload 1 38),
  (38, mo_if 2 66 41),
  (41, mo_aload 0 42),
  (42, mo_getR 0 1 45),
  (45, mo_iload 1 46),
  (46, mo_iald 47),
  (47, mo_const (vI 4) 48),
  (48, mo_icmp 3 66 51),
  (51, mo_aload 0 52),
  (52, mo_getR 0 1 55),
  (55, mo_iload 1 56),
  (56, mo_dup2 57),
  (57, mo_iald 58),
  (58, mo_const (vI 1) 59),
  (59, mo_iadd 60),
  (60, mo_iast 61),
  (61, mo_aload 0 62),
  (62, mo_iload 1 63),
  (63, mo_callV 6 0 1 66),
  (66, mo_vret)]
def md_5 : mMD := ((yX0_goOn, cX0_goOn, 2, none), ([], []), cd_5)
/-- 6: Trellistag$AllPaths.weighFrom(I)V -/
def cd_6 : List (Nat × mOP) := [(0, mo_iload 1 1),
  (1, mo_istore 2 2),
  (2, mo_iload 2 3),
  (3, mo_aload 0 4),
  (4, mo_getR 0 0 7),
  (7, mo_callV 22 2 0 10),
  (10, mo_icmp 3 89 13),
  (13, mo_iload 2 14),
  (14, mo_if 5 28 17),
  (17, mo_aload 0 18),
  (18, mo_getR 0 1 21),
  (21, mo_iload 2 22),
  (22, mo_const (vI 1) 23),
  (23, mo_isub 24),
  (24, mo_iald 25),
  (25, mo_goto 29),
  (28, mo_const (vI (-1)) 29),
  (29, mo_istore 3 30),
  (30, mo_aload 0 31),
  (31, mo_getR 0 2 34),
  (34, mo_iload 2 35),
  (35, mo_const (vI 1) 36),
  (36, mo_iadd 37),
  (37, mo_aload 0 38),
  (38, mo_getR 0 2 41),
  (41, mo_iload 2 42),
  (42, mo_lald 43),
  (43, mo_aload 0 44),
  (44, mo_getR 0 0 47),
  (47, mo_iload 2 48),
  (48, mo_iload 3 49),
  (49, mo_aload 0 50),
  (50, mo_getR 0 1 53),
  (53, mo_iload 2 54),
  (54, mo_iald 55),
  (55, mo_callV 25 2 3 58),
  (58, mo_lmul 59),
  (59, mo_last 60),
  (60, mo_aload 0 61),
  (61, mo_getR 0 3 64),
  (64, mo_iload 2 65),
  (65, mo_const (vI 1) 66),
  (66, mo_iadd 67),
  (67, mo_aload 0 68),
  (68, mo_getR 0 3 71),
  (71, mo_iload 2 72),
  (72, mo_iald 73),
  (73, mo_aload 0 74),
  (74, mo_getR 0 1 77),
  (77, mo_iload 2 78),
  (78, mo_iald 79),
  (79, mo_callS 35 2 82),
  (82, mo_iast 83),
  (83, mo_iinc 2 1 86),
  (86, mo_goto 2),
  (89, mo_vret)]
def md_6 : mMD := ((yX0_weighFrom, cX0_weighFrom, 4, none), ([], []), cd_6)
/-- 7: Trellistag$Corpus.<init>()V -/
def cd_7 : List (Nat × mOP) := [(0, mo_aload 0 1),
  (1, mo_objinit 4),
  (4, mo_aload 0 5),
  (5, mo_const (vI 21) 7),
  (7, mo_newa 6 10),
  (10, mo_putR 1 0 13),
  (13, mo_aload 0 14),
  (14, mo_const (vI 5) 15),
  (15, mo_newa 1 17),
  (17, mo_putR 1 1 20),
  (20, mo_aload 0 21),
  (21, mo_const (vI 5) 22),
  (22, mo_const (vI 5) 23),
  (23, mo_mna 4 1 27),
  (27, mo_putR 1 2 30),
  (30, mo_const (vI 0) 31),
  (31, mo_istore 1 32),
  (32, mo_iload 1 33),
  (33, mo_const (vI 20) 35),
  (35, mo_icmp 4 57 38),
  (38, mo_aload 0 39),
  (39, mo_getR 1 0 42),
  (42, mo_iload 1 43),
  (43, mo_new 5 4 46),
  (46, mo_dup 47),
  (47, mo_callV 44 5 0 50),
  (50, mo_aast 6 5 51),
  (51, mo_iinc 1 1 54),
  (54, mo_goto 32),
  (57, mo_vret)]
def md_7 : mMD := ((yX1_init, cX1_init, 2, none), ([], []), cd_7)
/-- 8: Trellistag$Corpus.draft()LTrellistag$Text; -/
def cd_8 : List (Nat × mOP) := [(0, mo_aload 0 1),
  (1, mo_getR 1 0 4),
  (4, mo_aload 0 5),
  (5, mo_getI 1 3 8),
  (8, mo_aald 6 9),
  (9, mo_aret)]
def md_8 : mMD := ((yX1_draft, cX1_draft, 1, (some (.object "Trellistag$Text"))), ([], []), cd_8)
/-- 9: Trellistag$Corpus.isFull()Z -/
def cd_9 : List (Nat × mOP) := [(0, mo_aload 0 1),
  (1, mo_getI 1 3 4),
  (4, mo_const (vI 20) 6),
  (6, mo_icmp 2 13 9),
  (9, mo_const (vI 1) 10),
  (10, mo_goto 14),
  (13, mo_const (vI 0) 14),
  (14, mo_zret)]
def md_9 : mMD := ((yX1_isFull, cX1_isFull, 1, (some .boolean)), ([], []), cd_9)
/-- 10: Trellistag$Corpus.holds(I)Z -/
def cd_10 : List (Nat × mOP) := [(0, mo_iload 1 1),
  (1, mo_if 2 16 4),
  (4, mo_iload 1 5),
  (5, mo_aload 0 6),
  (6, mo_getI 1 3 9),
  (9, mo_icmp 3 16 12),
  (12, mo_const (vI 1) 13),
  (13, mo_goto 17),
  (16, mo_const (vI 0) 17),
  (17, mo_zret)]
def md_10 : mMD := ((yX1_holds, cX1_holds, 2, (some .boolean)), ([], []), cd_10)
/-- 11: Trellistag$Corpus.counting()I -/
def cd_11 : List (Nat × mOP) := [(0, mo_aload 0 1),
  (1, mo_getI 1 4 4),
  (4, mo_iret)]
def md_11 : mMD := ((yX1_counting, cX1_counting, 1, (some .int)), ([], []), cd_11)
/-- 12: Trellistag$Corpus.keepDraft()I -/
def cd_12 : List (Nat × mOP) := [(0, mo_aload 0 1),
  (1, mo_getI 1 3 4),
  (4, mo_istore 1 5),
  (5, mo_aload 0 6),
  (6, mo_dup 7),
  (7, mo_getI 1 3 10),
  (10, mo_const (vI 1) 11),
  (11, mo_iadd 12),
  (12, mo_putI 1 3 15),
  (15, mo_aload 0 16),
  (16, mo_iload 1 17),
  (17, mo_const (vI 1) 18),
  (18, mo_callV 13 1 2 21),
  (21, mo_pop 22),
  (22, mo_iload 1 23),
  (23, mo_iret)]
def md_12 : mMD := ((yX1_keepDraft, cX1_keepDraft, 2, (some .int)), ([], []), cd_12)
/-- 13: Trellistag$Corpus.letCount(IZ)Z -/
def cd_13 : List (Nat × mOP) := [(0, mo_aload 0 1),
  (1, mo_getR 1 0 4),
  (4, mo_iload 1 5),
  (5, mo_aald 6 6),
  (6, mo_astore 3 7),
  (7, mo_aload 3 8),
  (8, mo_getI 5 3 11),
  (11, mo_istore 4 13),
  (13, mo_iload 2 14),
  (14, mo_iload 4 16),
  (16, mo_icmp 0 38 19),
  (19, mo_aload 3 20),
  (20, mo_iload 2 21),
  (21, mo_putZ 5 3 24),
  (24, mo_aload 0 25),
  (25, mo_aload 3 26),
  (26, mo_iload 2 27),
  (27, mo_if 0 34 30),
  (30, mo_const (vI 1) 31),
  (31, mo_goto 35),
  (34, mo_const (vI (-1)) 35),
  (35, mo_callV 14 1 2 38),
  (38, mo_iload 4 40),
  (40, mo_zret)]
def md_13 : mMD := ((yX1_letCount, cX1_letCount, 5, (some .boolean)), ([], []), cd_13)
/-- 14: Trellistag$Corpus.change(LTrellistag$Text;I)V -/
def cd_14 : List (Nat × mOP) := [(0, mo_aload 0 1),
  (1, mo_dup 2),
  (2, mo_getI 1 4 5),
  (5, mo_iload 2 6),
  (6, mo_iadd 7),
  (7, mo_putI 1 4 10),
  (10, mo_aload 0 11),
  (11, mo_getR 1 1 14),
  (14, mo_aload 1 15),
  (15, mo_getR 5 1 18),
  (18, mo_const (vI 0) 19),
  (19, mo_iald 20),
  (20, mo_dup2 21),
  (21, mo_iald 22),
  (22, mo_iload 2 23),
  (23, mo_iadd 24),
  (24, mo_iast 25),
  (25, mo_const (vI 1) 26),
  (26, mo_istore 3 27),
  (27, mo_iload 3 28),
  (28, mo_aload 1 29),
  (29, mo_getI 5 2 32),
  (32, mo_icmp 3 65 35),
  (35, mo_aload 0 36),
  (36, mo_getR 1 2 39),
  (39, mo_aload 1 40),
  (40, mo_getR 5 1 43),
  (43, mo_iload 3 44),
  (44, mo_const (vI 1) 45),
  (45, mo_isub 46),
  (46, mo_iald 47),
  (47, mo_aald 4 48),
  (48, mo_aload 1 49),
  (49, mo_getR 5 1 52),
  (52, mo_iload 3 53),
  (53, mo_iald 54),
  (54, mo_dup2 55),
  (55, mo_iald 56),
  (56, mo_iload 2 57),
  (57, mo_iadd 58),
  (58, mo_iast 59),
  (59, mo_iinc 3 1 62),
  (62, mo_goto 27),
  (65, mo_vret)]
def md_14 : mMD := ((yX1_change, cX1_change, 4, none), ([], []), cd_14)
/-- 15: Trellistag$Corpus.stepWeight(II)I -/
def cd_15 : List (Nat × mOP) := [(0, mo_iload 1 1),
  (1, mo_callS 84 1 4),
  (4, mo_if 0 18 7),
  (7, mo_aload 0 8),
  (8, mo_getR 1 2 11),
  (11, mo_iload 1 12),
  (12, mo_aald 4 13),
  (13, mo_iload 2 14),
  (14, mo_iald 15),
  (15, mo_goto 24),
  (18, mo_aload 0 19),
  (19, mo_getR 1 1 22),
  (22, mo_iload 2 23),
  (23, mo_iald 24),
  (24, mo_istore 3 25),
  (25, mo_const (vI 7) 27),
  (27, mo_iload 3 28),
  (28, mo_const (vI 1) 29),
  (29, mo_iadd 30),
  (30, mo_callS 127 2 33),
  (33, mo_iret)]
def md_15 : mMD := ((yX1_stepWeight, cX1_stepWeight, 4, (some .int)), ([], []), cd_15)
/-- 16: Trellistag$Corpus.weigh(I[I)V -/
def cd_16 : List (Nat × mOP) := [(0, mo_const (vI 0) 1),
  (1, mo_istore 3 2),
  (2, mo_aload 2 3),
  (3, mo_callS 20 1 6),
  (6, mo_const (vI 0) 7),
  (7, mo_istore 4 9),
  (9, mo_iload 4 11),
  (11, mo_aload 0 12),
  (12, mo_getI 1 3 15),
  (15, mo_icmp 3 51 18),
  (18, mo_aload 0 19),
  (19, mo_getR 1 0 22),
  (22, mo_iload 4 24),
  (24, mo_aald 6 25),
  (25, mo_getI 5 3 28),
  (28, mo_if 0 45 31),
  (31, mo_aload 0 32),
  (32, mo_getR 1 0 35),
  (35, mo_iload 4 37),
  (37, mo_aald 6 38),
  (38, mo_iload 1 39),
  (39, mo_iload 3 40),
  (40, mo_aload 2 41),
  (41, mo_callS 18 4 44),
  (44, mo_istore 3 45),
  (45, mo_iinc 4 1 48),
  (48, mo_goto 9),
  (51, mo_iload 3 52),
  (52, mo_callS 17 1 55),
  (55, mo_istore 4 57),
  (57, mo_const (vI 0) 58),
  (58, mo_istore 5 60),
  (60, mo_iload 5 62),
  (62, mo_const (vI 5) 63),
  (63, mo_icmp 3 90 66),
  (66, mo_aload 2 67),
  (67, mo_iload 5 69),
  (69, mo_const (vI 9) 71),
  (71, mo_iload 4 73),
  (73, mo_aload 2 74),
  (74, mo_iload 5 76),
  (76, mo_iald 77),
  (77, mo_imul 78),
  (78, mo_const (vI 1) 79),
  (79, mo_iadd 80),
  (80, mo_callS 127 2 83),
  (83, mo_iast 84),
  (84, mo_iinc 5 1 87),
  (87, mo_goto 60),
  (90, mo_vret)]
def md_16 : mMD := ((yX1_weigh, cX1_weigh, 6, none), ([], []), cd_16)
/-- 17: Trellistag$Corpus.factorOf(I)I -/
def cd_17 : List (Nat × mOP) := [(0, mo_iload 0 1),
  (1, mo_const (vI 4) 2),
  (2, mo_icmp 1 7 5),
  (5, mo_const (vI 4) 6),
  (6, mo_iret),
  (7, mo_iload 0 8),
  (8, mo_if 5 15 11),
  (11, mo_const (vI 2) 12),
  (12, mo_goto 16),
  (15, mo_const (vI 0) 16),
  (16, mo_iret)]
def md_17 : mMD := ((yX1_factorOf, cX1_factorOf, 1, (some .int)), ([], []), cd_17)
/-- 18: Trellistag$Corpus.countInText(LTrellistag$Text;II[I)I -/
def cd_18 : List (Nat × mOP) := [(0, mo_iload 2 1),
  (1, mo_istore 4 3),
  (3, mo_const (vI 0) 4),
  (4, mo_istore 5 6),
  (6, mo_iload 5 8),
  (8, mo_aload 0 9),
  (9, mo_getI 5 2 12),
  (12, mo_icmp 3 69 15),
  (15, mo_aload 0 16),
  (16, mo_getR 5 0 19),
  (19, mo_iload 5 21),
  (21, mo_iald 22),
  (22, mo_iload 1 23),
  (23, mo_callS 19 2 26),
  (26, mo_istore 6 28),
  (28, mo_iload 6 30),
  (30, mo_iload 4 32),
  (32, mo_icmp 5 43 35),
  (35, mo_iload 6 37),
  (37, mo_istore 4 39),
  (39, mo_aload 3 40),
  (40, mo_callS 20 1 43),
  (43, mo_iload 6 45),
  (45, mo_iload 4 47),
  (47, mo_icmp 1 63 50),
  (50, mo_aload 3 51),
  (51, mo_aload 0 52),
  (52, mo_getR 5 1 55),
  (55, mo_iload 5 57),
  (57, mo_iald 58),
  (58, mo_dup2 59),
  (59, mo_iald 60),
  (60, mo_const (vI 1) 61),
  (61, mo_iadd 62),
  (62, mo_iast 63),
  (63, mo_iinc 5 1 66),
  (66, mo_goto 6),
  (69, mo_iload 4 71),
  (71, mo_iret)]
def md_18 : mMD := ((yX1_countInText, cX1_countInText, 7, (some .int)), ([], []), cd_18)
/-- 19: Trellistag$Corpus.likeness(II)I -/
def cd_19 : List (Nat × mOP) := [(0, mo_iload 0 1),
  (1, mo_iload 1 2),
  (2, mo_icmp 1 7 5),
  (5, mo_const (vI 4) 6),
  (6, mo_iret),
  (7, mo_const (vI 0) 8),
  (8, mo_istore 2 9),
  (9, mo_const (vI 31) 11),
  (11, mo_istore 3 12),
  (12, mo_iload 2 13),
  (13, mo_const (vI 3) 14),
  (14, mo_icmp 3 36 17),
  (17, mo_iload 0 18),
  (18, mo_iload 3 19),
  (19, mo_iand 20),
  (20, mo_iload 1 21),
  (21, mo_iload 3 22),
  (22, mo_iand 23),
  (23, mo_icmp 1 36 26),
  (26, mo_iinc 2 1 29),
  (29, mo_iload 3 30),
  (30, mo_const (vI 5) 31),
  (31, mo_ishl 32),
  (32, mo_istore 3 33),
  (33, mo_goto 12),
  (36, mo_iload 2 37),
  (37, mo_iret)]
def md_19 : mMD := ((yX1_likeness, cX1_likeness, 4, (some .int)), ([], []), cd_19)
/-- 20: Trellistag$Corpus.clearRow([I)V -/
def cd_20 : List (Nat × mOP) := [(0, mo_const (vI 0) 1),
  (1, mo_istore 1 2),
  (2, mo_iload 1 3),
  (3, mo_const (vI 5) 4),
  (4, mo_icmp 3 17 7),
  (7, mo_aload 0 8),
  (8, mo_iload 1 9),
  (9, mo_const (vI 0) 10),
  (10, mo_iast 11),
  (11, mo_iinc 1 1 14),
  (14, mo_goto 2),
  (17, mo_vret)]
def md_20 : mMD := ((yX1_clearRow, cX1_clearRow, 2, none), ([], []), cd_20)
/-- 21: Trellistag$Lattice.<init>(LTrellistag$Corpus;LTrellistag$Sentence;)V -/
def cd_21 : List (Nat × mOP) := [(0, mo_aload 0 1),
  (1, mo_objinit 4),
  (4, mo_aload 0 5),
  (5, mo_const (vI 5) 6),
  (6, mo_const (vI 5) 7),
  (7, mo_mna 4 1 11),
  (11, mo_putR 2 2 14),
  (14, mo_aload 0 15),
  (15, mo_const (vI 6) 17),
  (17, mo_const (vI 5) 18),
  (18, mo_mna 4 1 22),
  (22, mo_putR 2 3 25),
  (25, mo_aload 0 26),
  (26, mo_aload 1 27),
  (27, mo_putR 2 0 30),
  (30, mo_aload 0 31),
  (31, mo_aload 2 32),
  (32, mo_putR 2 1 35),
  (35, mo_vret)]
def md_21 : mMD := ((yX2_init, cX2_init, 3, none), ([], []), cd_21)
/-- 22: Trellistag$Lattice.size()I -/
def cd_22 : List (Nat × mOP) := [(0, mo_aload 0 1),
  (1, mo_getR 2 1 4),
  (4, mo_callV 37 4 0 7),
  (7, mo_iret)]
def md_22 : mMD := ((yX2_size, cX2_size, 1, (some .int)), ([], []), cd_22)
/-- 23: Trellistag$Lattice.weighAll()V -/
def cd_23 : List (Nat × mOP) := [(0, mo_const (vI 0) 1),
  (1, mo_istore 1 2),
  (2, mo_iload 1 3),
  (3, mo_const (vI 5) 4),
  (4, mo_icmp 3 45 7),
  (7, mo_const (vI (-1)) 8),
  (8, mo_istore 2 9),
  (9, mo_iload 2 10),
  (10, mo_const (vI 5) 11),
  (11, mo_icmp 3 39 14),
  (14, mo_aload 0 15),
  (15, mo_getR 2 3 18),
  (18, mo_iload 2 19),
  (19, mo_const (vI 1) 20),
  (20, mo_iadd 21),
  (21, mo_aald 4 22),
  (22, mo_iload 1 23),
  (23, mo_aload 0 24),
  (24, mo_getR 2 0 27),
  (27, mo_iload 2 28),
  (28, mo_iload 1 29),
  (29, mo_callV 15 1 2 32),
  (32, mo_iast 33),
  (33, mo_iinc 2 1 36),
  (36, mo_goto 9),
  (39, mo_iinc 1 1 42),
  (42, mo_goto 2),
  (45, mo_const (vI 0) 46),
  (46, mo_istore 1 47),
  (47, mo_iload 1 48),
  (48, mo_aload 0 49),
  (49, mo_getR 2 1 52),
  (52, mo_callV 37 4 0 55),
  (55, mo_icmp 3 90 58),
  (58, mo_aload 0 59),
  (59, mo_getR 2 0 62),
  (62, mo_aload 0 63),
  (63, mo_getR 2 1 66),
  (66, mo_iload 1 67),
  (67, mo_callV 41 4 1 70),
  (70, mo_aload 0 71),
  (71, mo_getR 2 2 74),
  (74, mo_iload 1 75),
  (75, mo_aald 4 76),
  (76, mo_callV 16 1 2 79),
  (79, mo_aload 0 80),
  (80, mo_iload 1 81),
  (81, mo_callV 24 2 1 84),
  (84, mo_iinc 1 1 87),
  (87, mo_goto 47),
  (90, mo_vret)]
def md_23 : mMD := ((yX2_weighAll, cX2_weighAll, 3, none), ([], []), cd_23)
/-- 24: Trellistag$Lattice.ruleOut(I)V -/
def cd_24 : List (Nat × mOP) := [(0, mo_const (vI 0) 1),
  (1, mo_istore 2 2),
  (2, mo_iload 2 3),
  (3, mo_const (vI 5) 4),
  (4, mo_icmp 3 34 7),
  (7, mo_aload 0 8),
  (8, mo_getR 2 1 11),
  (11, mo_iload 1 12),
  (12, mo_iload 2 13),
  (13, mo_callV 43 4 2 16),
  (16, mo_if 1 28 19),
  (19, mo_aload 0 20),
  (20, mo_getR 2 2 23),
  (23, mo_iload 1 24),
  (24, mo_aald 4 25),
  (25, mo_iload 2 26),
  (26, mo_const (vI 0) 27),
  (27, mo_iast 28),
  (28, mo_iinc 2 1 31),
  (31, mo_goto 2),
  (34, mo_vret)]
def md_24 : mMD := ((yX2_ruleOut, cX2_ruleOut, 3, none), ([], []), cd_24)
/-- 25: Trellistag$Lattice.arc(III)J -/
def cd_25 : List (Nat × mOP) := [(0, mo_aload 0 1),
  (1, mo_getR 2 3 4),
  (4, mo_iload 2 5),
  (5, mo_const (vI 1) 6),
  (6, mo_iadd 7),
  (7, mo_aald 4 8),
  (8, mo_iload 3 9),
  (9, mo_iald 10),
  (10, mo_i2l 11),
  (11, mo_aload 0 12),
  (12, mo_getR 2 2 15),
  (15, mo_iload 1 16),
  (16, mo_aald 4 17),
  (17, mo_iload 3 18),
  (18, mo_iald 19),
  (19, mo_i2l 20),
  (20, mo_lmul 21),
  (21, mo_lret)]
def md_25 : mMD := ((yX2_arc, cX2_arc, 4, (some .long)), ([], []), cd_25)
/-- 26: Trellistag$PathFinder.<init>()V -/
def cd_26 : List (Nat × mOP) := [(0, mo_aload 0 1),
  (1, mo_objinit 4),
  (4, mo_vret)]
def md_26 : mMD := ((yX3_init, cX3_init, 1, none), ([], []), cd_26)
/-- 27: Trellistag$Ranking.<init>()V -/
def cd_27 : List (Nat × mOP) := [(0, mo_aload 0 1),
  (1, mo_objinit 4),
  (4, mo_aload 0 5),
  (5, mo_const (vI 10) 7),
  (7, mo_newa 2 9),
  (9, mo_putR 3 0 12),
  (12, mo_aload 0 13),
  (13, mo_const (vI 10) 15),
  (15, mo_newa 1 17),
  (17, mo_putR 3 1 20),
  (20, mo_vret)]
def md_27 : mMD := ((yX4_init, cX4_init, 1, none), ([], []), cd_27)
/-- 28: Trellistag$Ranking.removeAll()V -/
def cd_28 : List (Nat × mOP) := [(0, mo_aload 0 1),
  (1, mo_const (vI 0) 2),
  (2, mo_putI 3 2 5),
  (5, mo_vret)]
def md_28 : mMD := ((yX4_removeAll, cX4_removeAll, 1, none), ([], []), cd_28)
/-- 29: Trellistag$Ranking.offer(JI)V -/
def cd_29 : List (Nat × mOP) := [(0, mo_aload 0 1),
  (1, mo_getI 3 2 4),
  (4, mo_istore 4 6),
  (6, mo_iload 4 8),
  (8, mo_if 5 58 11),
  (11, mo_lload 1 12),
  (12, mo_aload 0 13),
  (13, mo_getR 3 0 16),
  (16, mo_iload 4 18),
  (18, mo_const (vI 1) 19),
  (19, mo_isub 20),
  (20, mo_lald 21),
  (21, mo_lcmp 22),
  (22, mo_if 4 52 25),
  (25, mo_lload 1 26),
  (26, mo_aload 0 27),
  (27, mo_getR 3 0 30),
  (30, mo_iload 4 32),
  (32, mo_const (vI 1) 33),
  (33, mo_isub 34),
  (34, mo_lald 35),
  (35, mo_lcmp 36),
  (36, mo_if 1 58 39),
  (39, mo_iload 3 40),
  (40, mo_aload 0 41),
  (41, mo_getR 3 1 44),
  (44, mo_iload 4 46),
  (46, mo_const (vI 1) 47),
  (47, mo_isub 48),
  (48, mo_iald 49),
  (49, mo_icmp 3 58 52),
  (52, mo_iinc 4 (-1) 55),
  (55, mo_goto 6),
  (58, mo_lload 1 59),
  (59, mo_const (vJ 0) 60),
  (60, mo_lcmp 61),
  (61, mo_if 5 79 64),
  (64, mo_iload 4 66),
  (66, mo_const (vI 10) 68),
  (68, mo_icmp 3 79 71),
  (71, mo_aload 0 72),
  (72, mo_iload 4 74),
  (74, mo_lload 1 75),
  (75, mo_iload 3 76),
  (76, mo_callV 30 3 3 79),
  (79, mo_vret)]
def md_29 : mMD := ((yX4_offer, cX4_offer, 5, none), ([], []), cd_29)
/-- 30: Trellistag$Ranking.insert(IJI)V -/
def cd_30 : List (Nat × mOP) := [(0, mo_aload 0 1),
  (1, mo_const (vI 10) 3),
  (3, mo_aload 0 4),
  (4, mo_getI 3 2 7),
  (7, mo_const (vI 1) 8),
  (8, mo_iadd 9),
  (9, mo_callS 127 2 12),
  (12, mo_putI 3 2 15),
  (15, mo_aload 0 16),
  (16, mo_getI 3 2 19),
  (19, mo_const (vI 1) 20),
  (20, mo_isub 21),
  (21, mo_istore 5 23),
  (23, mo_iload 5 25),
  (25, mo_iload 1 26),
  (26, mo_icmp 5 67 29),
  (29, mo_aload 0 30),
  (30, mo_getR 3 0 33),
  (33, mo_iload 5 35),
  (35, mo_aload 0 36),
  (36, mo_getR 3 0 39),
  (39, mo_iload 5 41),
  (41, mo_const (vI 1) 42),
  (42, mo_isub 43),
  (43, mo_lald 44),
  (44, mo_last 45),
  (45, mo_aload 0 46),
  (46, mo_getR 3 1 49),
  (49, mo_iload 5 51),
  (51, mo_aload 0 52),
  (52, mo_getR 3 1 55),
  (55, mo_iload 5 57),
  (57, mo_const (vI 1) 58),
  (58, mo_isub 59),
  (59, mo_iald 60),
  (60, mo_iast 61),
  (61, mo_iinc 5 (-1) 64),
  (64, mo_goto 23),
  (67, mo_aload 0 68),
  (68, mo_getR 3 0 71),
  (71, mo_iload 1 72),
  (72, mo_lload 2 73),
  (73, mo_last 74),
  (74, mo_aload 0 75),
  (75, mo_getR 3 1 78),
  (78, mo_iload 1 79),
  (79, mo_iload 4 81),
  (81, mo_iast 82),
  (82, mo_vret)]
def md_30 : mMD := ((yX4_insert, cX4_insert, 6, none), ([], []), cd_30)
/-- 31: Trellistag$Ranking.offerAll(LTrellistag$Ranking;)V -/
def cd_31 : List (Nat × mOP) := [(0, mo_const (vI 0) 1),
  (1, mo_istore 2 2),
  (2, mo_iload 2 3),
  (3, mo_aload 1 4),
  (4, mo_getI 3 2 7),
  (7, mo_icmp 3 32 10),
  (10, mo_aload 0 11),
  (11, mo_aload 1 12),
  (12, mo_getR 3 0 15),
  (15, mo_iload 2 16),
  (16, mo_lald 17),
  (17, mo_aload 1 18),
  (18, mo_getR 3 1 21),
  (21, mo_iload 2 22),
  (22, mo_iald 23),
  (23, mo_callV 29 3 2 26),
  (26, mo_iinc 2 1 29),
  (29, mo_goto 2),
  (32, mo_vret)]
def md_31 : mMD := ((yX4_offerAll, cX4_offerAll, 3, none), ([], []), cd_31)
/-- 32: Trellistag$Ranking.offerExtended(LTrellistag$Ranking;JI)V -/
def cd_32 : List (Nat × mOP) := [(0, mo_const (vI 0) 1),
  (1, mo_istore 5 3),
  (3, mo_iload 5 5),
  (5, mo_aload 1 6),
  (6, mo_getI 3 2 9),
  (9, mo_icmp 3 43 12),
  (12, mo_aload 0 13),
  (13, mo_aload 1 14),
  (14, mo_getR 3 0 17),
  (17, mo_iload 5 19),
  (19, mo_lald 20),
  (20, mo_lload 2 21),
  (21, mo_lmul 22),
  (22, mo_aload 1 23),
  (23, mo_getR 3 1 26),
  (26, mo_iload 5 28),
  (28, mo_iald 29),
  (29, mo_iload 4 31),
  (31, mo_callS 35 2 34),
  (34, mo_callV 29 3 2 37),
  (37, mo_iinc 5 1 40),
  (40, mo_goto 3),
  (43, mo_vret)]
def md_32 : mMD := ((yX4_offerExtended, cX4_offerExtended, 6, none), ([], []), cd_32)
/-- 33: Trellistag$Ranking.weightOf(I)J -/
def cd_33 : List (Nat × mOP) := [(0, mo_iload 1 1),
  (1, mo_aload 0 2),
  (2, mo_getI 3 2 5),
  (5, mo_icmp 3 17 8),
  (8, mo_aload 0 9),
  (9, mo_getR 3 0 12),
  (12, mo_iload 1 13),
  (13, mo_lald 14),
  (14, mo_goto 18),
  (17, mo_const (vJ 0) 18),
  (18, mo_lret)]
def md_33 : mMD := ((yX4_weightOf, cX4_weightOf, 2, (some .long)), ([], []), cd_33)
/-- 34: Trellistag$Ranking.tagOf(II)I -/
def cd_34 : List (Nat × mOP) := [(0, mo_iload 1 1),
  (1, mo_aload 0 2),
  (2, mo_getI 3 2 5),
  (5, mo_icmp 3 24 8),
  (8, mo_aload 0 9),
  (9, mo_getR 3 1 12),
  (12, mo_iload 1 13),
  (13, mo_iald 14),
  (14, mo_const (vI 3) 15),
  (15, mo_iload 2 16),
  (16, mo_imul 17),
  (17, mo_ishr 18),
  (18, mo_const (vI 7) 20),
  (20, mo_iand 21),
  (21, mo_goto 25),
  (24, mo_const (vI (-1)) 25),
  (25, mo_iret)]
def md_34 : mMD := ((yX4_tagOf, cX4_tagOf, 3, (some .int)), ([], []), cd_34)
/-- 35: Trellistag$Ranking.extended(II)I -/
def cd_35 : List (Nat × mOP) := [(0, mo_iload 0 1),
  (1, mo_const (vI 3) 2),
  (2, mo_ishl 3),
  (3, mo_iload 1 4),
  (4, mo_ior 5),
  (5, mo_iret)]
def md_35 : mMD := ((yX4_extended, cX4_extended, 2, (some .int)), ([], []), cd_35)
/-- 36: Trellistag$Sentence.<init>()V -/
def cd_36 : List (Nat × mOP) := [(0, mo_aload 0 1),
  (1, mo_objinit 4),
  (4, mo_aload 0 5),
  (5, mo_const (vI 5) 6),
  (6, mo_newa 1 8),
  (8, mo_putR 4 0 11),
  (11, mo_aload 0 12),
  (12, mo_const (vI 5) 13),
  (13, mo_newa 1 15),
  (15, mo_putR 4 1 18),
  (18, mo_vret)]
def md_36 : mMD := ((yX5_init, cX5_init, 1, none), ([], []), cd_36)
/-- 37: Trellistag$Sentence.size()I -/
def cd_37 : List (Nat × mOP) := [(0, mo_aload 0 1),
  (1, mo_getI 4 2 4),
  (4, mo_iret)]
def md_37 : mMD := ((yX5_size, cX5_size, 1, (some .int)), ([], []), cd_37)
/-- 38: Trellistag$Sentence.isFull()Z -/
def cd_38 : List (Nat × mOP) := [(0, mo_aload 0 1),
  (1, mo_getI 4 2 4),
  (4, mo_const (vI 5) 5),
  (5, mo_icmp 2 12 8),
  (8, mo_const (vI 1) 9),
  (9, mo_goto 13),
  (12, mo_const (vI 0) 13),
  (13, mo_zret)]
def md_38 : mMD := ((yX5_isFull, cX5_isFull, 1, (some .boolean)), ([], []), cd_38)
/-- 39: Trellistag$Sentence.append(I)I -/
def cd_39 : List (Nat × mOP) := [(0, mo_aload 0 1),
  (1, mo_getR 4 0 4),
  (4, mo_aload 0 5),
  (5, mo_getI 4 2 8),
  (8, mo_iload 1 9),
  (9, mo_iast 10),
  (10, mo_aload 0 11),
  (11, mo_getR 4 1 14),
  (14, mo_aload 0 15),
  (15, mo_getI 4 2 18),
  (18, mo_const (vI (-1)) 19),
  (19, mo_iast 20),
  (20, mo_aload 0 21),
  (21, mo_dup 22),
  (22, mo_getI 4 2 25),
  (25, mo_const (vI 1) 26),
  (26, mo_iadd 27),
  (27, mo_putI 4 2 30),
  (30, mo_aload 0 31),
  (31, mo_getI 4 2 34),
  (34, mo_iret)]
def md_39 : mMD := ((yX5_append, cX5_append, 2, (some .int)), ([], []), cd_39)
/-- 40: Trellistag$Sentence.removeAll()I -/
def cd_40 : List (Nat × mOP) := [(0, mo_aload 0 1),
  (1, mo_getI 4 2 4),
  (4, mo_istore 1 5),
  (5, mo_aload 0 6),
  (6, mo_const (vI 0) 7),
  (7, mo_putI 4 2 10),
  (10, mo_iload 1 11),
  (11, mo_iret)]
def md_40 : mMD := ((yX5_removeAll, cX5_removeAll, 2, (some .int)), ([], []), cd_40)
/-- 41: Trellistag$Sentence.wordAt(I)I -/
def cd_41 : List (Nat × mOP) := [(0, mo_aload 0 1),
  (1, mo_getR 4 0 4),
  (4, mo_iload 1 5),
  (5, mo_iald 6),
  (6, mo_iret)]
def md_41 : mMD := ((yX5_wordAt, cX5_wordAt, 2, (some .int)), ([], []), cd_41)
/-- 42: Trellistag$Sentence.lockTo(II)I -/
def cd_42 : List (Nat × mOP) := [(0, mo_aload 0 1),
  (1, mo_getR 4 1 4),
  (4, mo_iload 1 5),
  (5, mo_iald 6),
  (6, mo_istore 3 7),
  (7, mo_aload 0 8),
  (8, mo_getR 4 1 11),
  (11, mo_iload 1 12),
  (12, mo_iload 2 13),
  (13, mo_iast 14),
  (14, mo_iload 3 15),
  (15, mo_iret)]
def md_42 : mMD := ((yX5_lockTo, cX5_lockTo, 4, (some .int)), ([], []), cd_42)
/-- 43: Trellistag$Sentence.allows(II)Z -/
def cd_43 : List (Nat × mOP) := [(0, mo_aload 0 1),
  (1, mo_getR 4 1 4),
  (4, mo_iload 1 5),
  (5, mo_iald 6),
  (6, mo_const (vI (-1)) 7),
  (7, mo_icmp 0 20 10),
  (10, mo_aload 0 11),
  (11, mo_getR 4 1 14),
  (14, mo_iload 1 15),
  (15, mo_iald 16),
  (16, mo_iload 2 17),
  (17, mo_icmp 1 24 20),
  (20, mo_const (vI 1) 21),
  (21, mo_goto 25),
  (24, mo_const (vI 0) 25),
  (25, mo_zret)]
def md_43 : mMD := ((yX5_allows, cX5_allows, 3, (some .boolean)), ([], []), cd_43)
/-- 44: Trellistag$Text.<init>()V -/
def cd_44 : List (Nat × mOP) := [(0, mo_aload 0 1),
  (1, mo_objinit 4),
  (4, mo_aload 0 5),
  (5, mo_const (vI 6) 7),
  (7, mo_newa 1 9),
  (9, mo_putR 5 0 12),
  (12, mo_aload 0 13),
  (13, mo_const (vI 6) 15),
  (15, mo_newa 1 17),
  (17, mo_putR 5 1 20),
  (20, mo_vret)]
def md_44 : mMD := ((yX6_init, cX6_init, 1, none), ([], []), cd_44)
/-- 45: Trellistag$Text.isEmpty()Z -/
def cd_45 : List (Nat × mOP) := [(0, mo_aload 0 1),
  (1, mo_getI 5 2 4),
  (4, mo_if 1 11 7),
  (7, mo_const (vI 1) 8),
  (8, mo_goto 12),
  (11, mo_const (vI 0) 12),
  (12, mo_zret)]
def md_45 : mMD := ((yX6_isEmpty, cX6_isEmpty, 1, (some .boolean)), ([], []), cd_45)
/-- 46: Trellistag$Text.isFull()Z -/
def cd_46 : List (Nat × mOP) := [(0, mo_aload 0 1),
  (1, mo_getI 5 2 4),
  (4, mo_const (vI 6) 6),
  (6, mo_icmp 2 13 9),
  (9, mo_const (vI 1) 10),
  (10, mo_goto 14),
  (13, mo_const (vI 0) 14),
  (14, mo_zret)]
def md_46 : mMD := ((yX6_isFull, cX6_isFull, 1, (some .boolean)), ([], []), cd_46)
/-- 47: Trellistag$Text.append(II)I -/
def cd_47 : List (Nat × mOP) := [(0, mo_aload 0 1),
  (1, mo_getR 5 0 4),
  (4, mo_aload 0 5),
  (5, mo_getI 5 2 8),
  (8, mo_iload 1 9),
  (9, mo_iast 10),
  (10, mo_aload 0 11),
  (11, mo_getR 5 1 14),
  (14, mo_aload 0 15),
  (15, mo_getI 5 2 18),
  (18, mo_iload 2 19),
  (19, mo_iast 20),
  (20, mo_aload 0 21),
  (21, mo_dup 22),
  (22, mo_getI 5 2 25),
  (25, mo_const (vI 1) 26),
  (26, mo_iadd 27),
  (27, mo_putI 5 2 30),
  (30, mo_aload 0 31),
  (31, mo_getI 5 2 34),
  (34, mo_iret)]
def md_47 : mMD := ((yX6_append, cX6_append, 3, (some .int)), ([], []), cd_47)
/-- 48: Trellistag$Trellis.<init>(LTrellistag$Lattice;)V -/
def cd_48 : List (Nat × mOP) := [(0, mo_aload 0 1),
  (1, mo_callV 26 6 0 4),
  (4, mo_aload 0 5),
  (5, mo_const (vI 25) 7),
  (7, mo_newa 7 10),
  (10, mo_putR 6 1 13),
  (13, mo_aload 0 14),
  (14, mo_const (vI 5) 15),
  (15, mo_const (vI 5) 16),
  (16, mo_mna 5 2 20),
  (20, mo_putR 6 2 23),
  (23, mo_aload 0 24),
  (24, mo_const (vI 5) 25),
  (25, mo_const (vI 5) 26),
  (26, mo_mna 5 2 30),
  (30, mo_putR 6 3 33),
  (33, mo_aload 0 34),
  (34, mo_aload 1 35),
  (35, mo_putR 6 0 38),
  (38, mo_const (vI 0) 39),
  (39, mo_istore 2 40),
  (40, mo_iload 2 41),
  (41, mo_const (vI 25) 43),
  (43, mo_icmp 3 65 46),
  (46, mo_aload 0 47),
  (47, mo_getR 6 1 50),
  (50, mo_iload 2 51),
  (51, mo_new 3 3 54),
  (54, mo_dup 55),
  (55, mo_callV 27 3 0 58),
  (58, mo_aast 7 3 59),
  (59, mo_iinc 2 1 62),
  (62, mo_goto 40),
  (65, mo_vret)]
def md_48 : mMD := ((yX7_init, cX7_init, 3, none), ([], []), cd_48)
/-- 49: Trellistag$Trellis.rankInto(LTrellistag$Ranking;)V -/
def cd_49 : List (Nat × mOP) := [(0, mo_aload 0 1),
  (1, mo_getR 6 0 4),
  (4, mo_callV 22 2 0 7),
  (7, mo_const (vI 1) 8),
  (8, mo_isub 9),
  (9, mo_istore 2 10),
  (10, mo_iload 2 11),
  (11, mo_if 3 15 14),
  (14, mo_vret),
  (15, mo_const (vI 0) 16),
  (16, mo_istore 3 17),
  (17, mo_iload 3 18),
  (18, mo_iload 2 19),
  (19, mo_icmp 4 50 22),
  (22, mo_const (vI 0) 23),
  (23, mo_istore 4 25),
  (25, mo_iload 4 27),
  (27, mo_const (vI 5) 28),
  (28, mo_icmp 3 44 31),
  (31, mo_aload 0 32),
  (32, mo_iload 3 33),
  (33, mo_iload 4 35),
  (35, mo_callV 50 6 2 38),
  (38, mo_iinc 4 1 41),
  (41, mo_goto 25),
  (44, mo_iinc 3 1 47),
  (47, mo_goto 17),
  (50, mo_const (vI 0) 51),
  (51, mo_istore 3 52),
  (52, mo_iload 3 53),
  (53, mo_const (vI 5) 54),
  (54, mo_icmp 3 73 57),
  (57, mo_aload 1 58),
  (58, mo_aload 0 59),
  (59, mo_iload 2 60),
  (60, mo_iload 3 61),
  (61, mo_callV 51 6 2 64),
  (64, mo_callV 31 3 1 67),
  (67, mo_iinc 3 1 70),
  (70, mo_goto 52),
  (73, mo_vret)]
def md_49 : mMD := ((yX7_rankInto, cX7_rankInto, 5, none), ([], []), cd_49)
/-- 50: Trellistag$Trellis.rankUpTo(II)V -/
def cd_50 : List (Nat × mOP) := [(0, mo_aload 0 1),
  (1, mo_iload 1 2),
  (2, mo_iload 2 3),
  (3, mo_callV 51 6 2 6),
  (6, mo_astore 3 7),
  (7, mo_aload 3 8),
  (8, mo_callV 28 3 0 11),
  (11, mo_iload 1 12),
  (12, mo_if 1 31 15),
  (15, mo_aload 3 16),
  (16, mo_aload 0 17),
  (17, mo_getR 6 0 20),
  (20, mo_const (vI 0) 21),
  (21, mo_const (vI (-1)) 22),
  (22, mo_iload 2 23),
  (23, mo_callV 25 2 3 26),
  (26, mo_iload 2 27),
  (27, mo_callV 29 3 2 30),
  (30, mo_vret),
  (31, mo_const (vI 0) 32),
  (32, mo_istore 4 34),
  (34, mo_iload 4 36),
  (36, mo_const (vI 5) 37),
  (37, mo_icmp 3 71 40),
  (40, mo_aload 3 41),
  (41, mo_aload 0 42),
  (42, mo_iload 1 43),
  (43, mo_const (vI 1) 44),
  (44, mo_isub 45),
  (45, mo_iload 4 47),
  (47, mo_callV 51 6 2 50),
  (50, mo_aload 0 51),
  (51, mo_getR 6 0 54),
  (54, mo_iload 1 55),
  (55, mo_iload 4 57),
  (57, mo_iload 2 58),
  (58, mo_callV 25 2 3 61),
  (61, mo_iload 2 62),
  (62, mo_callV 32 3 3 65),
  (65, mo_iinc 4 1 68),
  (68, mo_goto 34),
  (71, mo_vret)]
def md_50 : mMD := ((yX7_rankUpTo, cX7_rankUpTo, 5, none), ([], []), cd_50)
/-- 51: Trellistag$Trellis.rankingAt(II)LTrellistag$Ranking; -/
def cd_51 : List (Nat × mOP) := [(0, mo_aload 0 1),
  (1, mo_getR 6 1 4),
  (4, mo_iload 1 5),
  (5, mo_const (vI 5) 6),
  (6, mo_imul 7),
  (7, mo_iload 2 8),
  (8, mo_iadd 9),
  (9, mo_aald 7 10),
  (10, mo_aret)]
def md_51 : mMD := ((yX7_rankingAt, cX7_rankingAt, 3, (some (.object "Trellistag$Ranking"))), ([], []), cd_51)
/-- 52: Trellistag$Trellis.sumInto([JI)V -/
def cd_52 : List (Nat × mOP) := [(0, mo_const (vI 0) 1),
  (1, mo_istore 3 2),
  (2, mo_iload 3 3),
  (3, mo_iload 2 4),
  (4, mo_icmp 4 44 7),
  (7, mo_const (vI 0) 8),
  (8, mo_istore 4 10),
  (10, mo_iload 4 12),
  (12, mo_const (vI 5) 13),
  (13, mo_icmp 3 38 16),
  (16, mo_aload 0 17),
  (17, mo_getR 6 2 20),
  (20, mo_iload 3 21),
  (21, mo_aald 5 22),
  (22, mo_iload 4 24),
  (24, mo_aload 0 25),
  (25, mo_iload 3 26),
  (26, mo_iload 4 28),
  (28, mo_callV 53 6 2 31),
  (31, mo_last 32),
  (32, mo_iinc 4 1 35),
  (35, mo_goto 10),
  (38, mo_iinc 3 1 41),
  (41, mo_goto 2),
  (44, mo_aload 0 45),
  (45, mo_getR 6 0 48),
  (48, mo_callV 22 2 0 51),
  (51, mo_const (vI 1) 52),
  (52, mo_isub 53),
  (53, mo_istore 3 54),
  (54, mo_iload 3 55),
  (55, mo_iload 2 56),
  (56, mo_icmp 2 96 59),
  (59, mo_const (vI 0) 60),
  (60, mo_istore 4 62),
  (62, mo_iload 4 64),
  (64, mo_const (vI 5) 65),
  (65, mo_icmp 3 90 68),
  (68, mo_aload 0 69),
  (69, mo_getR 6 3 72),
  (72, mo_iload 3 73),
  (73, mo_aald 5 74),
  (74, mo_iload 4 76),
  (76, mo_aload 0 77),
  (77, mo_iload 3 78),
  (78, mo_iload 4 80),
  (80, mo_callV 54 6 2 83),
  (83, mo_last 84),
  (84, mo_iinc 4 1 87),
  (87, mo_goto 62),
  (90, mo_iinc 3 (-1) 93),
  (93, mo_goto 54),
  (96, mo_const (vI 0) 97),
  (97, mo_istore 3 98),
  (98, mo_iload 3 99),
  (99, mo_const (vI 5) 100),
  (100, mo_icmp 3 129 103),
  (103, mo_aload 1 104),
  (104, mo_iload 3 105),
  (105, mo_aload 0 106),
  (106, mo_getR 6 2 109),
  (109, mo_iload 2 110),
  (110, mo_aald 5 111),
  (111, mo_iload 3 112),
  (112, mo_lald 113),
  (113, mo_aload 0 114),
  (114, mo_getR 6 3 117),
  (117, mo_iload 2 118),
  (118, mo_aald 5 119),
  (119, mo_iload 3 120),
  (120, mo_lald 121),
  (121, mo_lmul 122),
  (122, mo_last 123),
  (123, mo_iinc 3 1 126),
  (126, mo_goto 98),
  (129, mo_vret)]
def md_52 : mMD := ((yX7_sumInto, cX7_sumInto, 5, none), ([], []), cd_52)
/-- 53: Trellistag$Trellis.sumAhead(II)J -/
def cd_53 : List (Nat × mOP) := [(0, mo_iload 1 1),
  (1, mo_if 1 15 4),
  (4, mo_aload 0 5),
  (5, mo_getR 6 0 8),
  (8, mo_const (vI 0) 9),
  (9, mo_const (vI (-1)) 10),
  (10, mo_iload 2 11),
  (11, mo_callV 25 2 3 14),
  (14, mo_lret),
  (15, mo_const (vJ 0) 16),
  (16, mo_lstore 3 17),
  (17, mo_const (vI 0) 18),
  (18, mo_istore 5 20),
  (20, mo_iload 5 22),
  (22, mo_const (vI 5) 23),
  (23, mo_icmp 3 58 26),
  (26, mo_lload 3 27),
  (27, mo_aload 0 28),
  (28, mo_getR 6 2 31),
  (31, mo_iload 1 32),
  (32, mo_const (vI 1) 33),
  (33, mo_isub 34),
  (34, mo_aald 5 35),
  (35, mo_iload 5 37),
  (37, mo_lald 38),
  (38, mo_aload 0 39),
  (39, mo_getR 6 0 42),
  (42, mo_iload 1 43),
  (43, mo_iload 5 45),
  (45, mo_iload 2 46),
  (46, mo_callV 25 2 3 49),
  (49, mo_lmul 50),
  (50, mo_ladd 51),
  (51, mo_lstore 3 52),
  (52, mo_iinc 5 1 55),
  (55, mo_goto 20),
  (58, mo_lload 3 59),
  (59, mo_lret)]
def md_53 : mMD := ((yX7_sumAhead, cX7_sumAhead, 6, (some .long)), ([], []), cd_53)
/-- 54: Trellistag$Trellis.sumBehind(II)J -/
def cd_54 : List (Nat × mOP) := [(0, mo_iload 1 1),
  (1, mo_aload 0 2),
  (2, mo_getR 6 0 5),
  (5, mo_callV 22 2 0 8),
  (8, mo_const (vI 1) 9),
  (9, mo_isub 10),
  (10, mo_icmp 1 15 13),
  (13, mo_const (vJ 1) 14),
  (14, mo_lret),
  (15, mo_const (vJ 0) 16),
  (16, mo_lstore 3 17),
  (17, mo_const (vI 0) 18),
  (18, mo_istore 5 20),
  (20, mo_iload 5 22),
  (22, mo_const (vI 5) 23),
  (23, mo_icmp 3 60 26),
  (26, mo_lload 3 27),
  (27, mo_aload 0 28),
  (28, mo_getR 6 0 31),
  (31, mo_iload 1 32),
  (32, mo_const (vI 1) 33),
  (33, mo_iadd 34),
  (34, mo_iload 2 35),
  (35, mo_iload 5 37),
  (37, mo_callV 25 2 3 40),
  (40, mo_aload 0 41),
  (41, mo_getR 6 3 44),
  (44, mo_iload 1 45),
  (45, mo_const (vI 1) 46),
  (46, mo_iadd 47),
  (47, mo_aald 5 48),
  (48, mo_iload 5 50),
  (50, mo_lald 51),
  (51, mo_lmul 52),
  (52, mo_ladd 53),
  (53, mo_lstore 3 54),
  (54, mo_iinc 5 1 57),
  (57, mo_goto 20),
  (60, mo_lload 3 61),
  (61, mo_lret)]
def md_54 : mMD := ((yX7_sumBehind, cX7_sumBehind, 6, (some .long)), ([], []), cd_54)
/-- 55: Trellistag$TypedWord.<init>()V -/
def cd_55 : List (Nat × mOP) := [(0, mo_aload 0 1),
  (1, mo_objinit 4),
  (4, mo_vret)]
def md_55 : mMD := ((yX8_init, cX8_init, 1, none), ([], []), cd_55)
/-- 56: Trellistag$TypedWord.isEmpty()Z -/
def cd_56 : List (Nat × mOP) := [(0, mo_aload 0 1),
  (1, mo_getI 7 1 4),
  (4, mo_if 1 11 7),
  (7, mo_const (vI 1) 8),
  (8, mo_goto 12),
  (11, mo_const (vI 0) 12),
  (12, mo_zret)]
def md_56 : mMD := ((yX8_isEmpty, cX8_isEmpty, 1, (some .boolean)), ([], []), cd_56)
/-- 57: Trellistag$TypedWord.isFull()Z -/
def cd_57 : List (Nat × mOP) := [(0, mo_aload 0 1),
  (1, mo_getI 7 1 4),
  (4, mo_const (vI 6) 6),
  (6, mo_icmp 2 13 9),
  (9, mo_const (vI 1) 10),
  (10, mo_goto 14),
  (13, mo_const (vI 0) 14),
  (14, mo_zret)]
def md_57 : mMD := ((yX8_isFull, cX8_isFull, 1, (some .boolean)), ([], []), cd_57)
/-- 58: Trellistag$TypedWord.append(C)I -/
def cd_58 : List (Nat × mOP) := [(0, mo_aload 0 1),
  (1, mo_aload 0 2),
  (2, mo_getI 7 0 5),
  (5, mo_const (vI 5) 6),
  (6, mo_ishl 7),
  (7, mo_iload 1 8),
  (8, mo_const (vI 97) 10),
  (10, mo_isub 11),
  (11, mo_const (vI 1) 12),
  (12, mo_iadd 13),
  (13, mo_ior 14),
  (14, mo_putI 7 0 17),
  (17, mo_aload 0 18),
  (18, mo_dup 19),
  (19, mo_getI 7 1 22),
  (22, mo_const (vI 1) 23),
  (23, mo_iadd 24),
  (24, mo_putI 7 1 27),
  (27, mo_aload 0 28),
  (28, mo_getI 7 1 31),
  (31, mo_iret)]
def md_58 : mMD := ((yX8_append, cX8_append, 2, (some .int)), ([], []), cd_58)
/-- 59: Trellistag$TypedWord.code()I -/
def cd_59 : List (Nat × mOP) := [(0, mo_aload 0 1),
  (1, mo_getI 7 0 4),
  (4, mo_iret)]
def md_59 : mMD := ((yX8_code, cX8_code, 1, (some .int)), ([], []), cd_59)
/-- 60: Trellistag$TypedWord.take()I -/
def cd_60 : List (Nat × mOP) := [(0, mo_aload 0 1),
  (1, mo_getI 7 0 4),
  (4, mo_istore 1 5),
  (5, mo_aload 0 6),
  (6, mo_const (vI 0) 7),
  (7, mo_putI 7 0 10),
  (10, mo_aload 0 11),
  (11, mo_const (vI 0) 12),
  (12, mo_putI 7 1 15),
  (15, mo_iload 1 16),
  (16, mo_iret)]
def md_60 : mMD := ((yX8_take, cX8_take, 2, (some .int)), ([], []), cd_60)
/-- 61: Trellistag.<init>()V -/
def cd_61 : List (Nat × mOP) := [(0, mo_aload 0 1),
  (1, mo_objinit 4),
  (4, mo_aload 0 5),
  (5, mo_new 7 2 8),
  (8, mo_dup 9),
  (9, mo_callV 55 7 0 12),
  (12, mo_putR 8 0 15),
  (15, mo_aload 0 16),
  (16, mo_new 1 5 19),
  (19, mo_dup 20),
  (20, mo_callV 7 1 0 23),
  (23, mo_putR 8 1 26),
  (26, mo_aload 0 27),
  (27, mo_new 4 3 30),
  (30, mo_dup 31),
  (31, mo_callV 36 4 0 34),
  (34, mo_putR 8 2 37),
  (37, mo_aload 0 38),
  (38, mo_new 2 4 41),
  (41, mo_dup 42),
  (42, mo_aload 0 43),
  (43, mo_getR 8 1 46),
  (46, mo_aload 0 47),
  (47, mo_getR 8 2 50),
  (50, mo_callV 21 2 2 53),
  (53, mo_putR 8 3 56),
  (56, mo_aload 0 57),
  (57, mo_new 6 4 60),
  (60, mo_dup 61),
  (61, mo_aload 0 62),
  (62, mo_getR 8 3 65),
  (65, mo_callV 48 6 1 68),
  (68, mo_putR 8 4 71),
  (71, mo_aload 0 72),
  (72, mo_new 0 4 75),
  (75, mo_dup 76),
  (76, mo_aload 0 77),
  (77, mo_getR 8 3 80),
  (80, mo_callV 0 0 1 83),
  (83, mo_putR 8 5 86),
  (86, mo_aload 0 87),
  (87, mo_new 3 3 90),
  (90, mo_dup 91),
  (91, mo_callV 27 3 0 94),
  (94, mo_putR 8 6 97),
  (97, mo_aload 0 98),
  (98, mo_const (vI 5) 99),
  (99, mo_newa 1 101),
  (101, mo_putR 8 7 104),
  (104, mo_aload 0 105),
  (105, mo_const (vI 5) 106),
  (106, mo_newa 2 108),
  (108, mo_putR 8 8 111),
  (111, mo_vret)]
def md_61 : mMD := ((yX9_init, cX9_init, 1, none), ([], []), cd_61)
/-- 62: Trellistag.letter(C)I -/
def cd_62 : List (Nat × mOP) := [(0, mo_iload 1 1),
  (1, mo_const (vI 97) 3),
  (3, mo_icmp 2 12 6),
  (6, mo_iload 1 7),
  (7, mo_const (vI 122) 9),
  (9, mo_icmp 5 22 12),
  (12, mo_thr 0),
  (22, mo_aload 0 23),
  (23, mo_getR 8 0 26),
  (26, mo_callV 57 7 0 29),
  (29, mo_if 0 42 32),
  (32, mo_thr 1),
  (42, mo_aload 0 43),
  (43, mo_getR 8 0 46),
  (46, mo_iload 1 47),
  (47, mo_callV 58 7 1 50),
  (50, mo_iret)]
def md_62 : mMD := ((yX9_letter, cX9_letter, 2, (some .int)), ([], []), cd_62)
/-- 63: Trellistag.tag(I)I -/
def cd_63 : List (Nat × mOP) := [(0, mo_iload 1 1),
  (1, mo_callS 85 1 4),
  (4, mo_aload 0 5),
  (5, mo_callV 89 8 0 8),
  (8, mo_aload 0 9),
  (9, mo_getR 8 1 12),
  (12, mo_callV 8 1 0 15),
  (15, mo_astore 2 16),
  (16, mo_aload 2 17),
  (17, mo_callV 46 5 0 20),
  (20, mo_if 0 33 23),
  (23, mo_thr 1),
  (33, mo_aload 2 34),
  (34, mo_aload 0 35),
  (35, mo_getR 8 0 38),
  (38, mo_callV 60 7 0 41),
  (41, mo_iload 1 42),
  (42, mo_callV 47 5 2 45),
  (45, mo_iret)]
def md_63 : mMD := ((yX9_tag, cX9_tag, 3, (some .int)), ([], []), cd_63)
/-- 64: Trellistag.add()I -/
def cd_64 : List (Nat × mOP) := [(0, mo_aload 0 1),
  (1, mo_getR 8 1 4),
  (4, mo_callV 8 1 0 7),
  (7, mo_callV 45 5 0 10),
  (10, mo_if 0 23 13),
  (13, mo_thr 1),
  (23, mo_aload 0 24),
  (24, mo_getR 8 1 27),
  (27, mo_callV 9 1 0 30),
  (30, mo_if 0 43 33),
  (33, mo_thr 1),
  (43, mo_aload 0 44),
  (44, mo_getR 8 1 47),
  (47, mo_callV 12 1 0 50),
  (50, mo_iret)]
def md_64 : mMD := ((yX9_add, cX9_add, 1, (some .int)), ([], []), cd_64)
/-- 65: Trellistag.text(IZ)Z -/
def cd_65 : List (Nat × mOP) := [(0, mo_aload 0 1),
  (1, mo_getR 8 1 4),
  (4, mo_iload 1 5),
  (5, mo_callV 10 1 1 8),
  (8, mo_if 1 21 11),
  (11, mo_thr 2),
  (21, mo_aload 0 22),
  (22, mo_getR 8 1 25),
  (25, mo_iload 1 26),
  (26, mo_iload 2 27),
  (27, mo_callV 13 1 2 30),
  (30, mo_zret)]
def md_65 : mMD := ((yX9_text, cX9_text, 3, (some .boolean)), ([], []), cd_65)
/-- 66: Trellistag.word()I -/
def cd_66 : List (Nat × mOP) := [(0, mo_aload 0 1),
  (1, mo_callV 89 8 0 4),
  (4, mo_aload 0 5),
  (5, mo_getR 8 2 8),
  (8, mo_callV 38 4 0 11),
  (11, mo_if 0 24 14),
  (14, mo_thr 1),
  (24, mo_aload 0 25),
  (25, mo_getR 8 2 28),
  (28, mo_aload 0 29),
  (29, mo_getR 8 0 32),
  (32, mo_callV 60 7 0 35),
  (35, mo_callV 39 4 1 38),
  (38, mo_iret)]
def md_66 : mMD := ((yX9_word, cX9_word, 1, (some .int)), ([], []), cd_66)
/-- 67: Trellistag.clear()I -/
def cd_67 : List (Nat × mOP) := [(0, mo_aload 0 1),
  (1, mo_getR 8 2 4),
  (4, mo_callV 40 4 0 7),
  (7, mo_iret)]
def md_67 : mMD := ((yX9_clear, cX9_clear, 1, (some .int)), ([], []), cd_67)
/-- 68: Trellistag.lock(II)I -/
def cd_68 : List (Nat × mOP) := [(0, mo_aload 0 1),
  (1, mo_iload 1 2),
  (2, mo_callV 88 8 1 5),
  (5, mo_iload 2 6),
  (6, mo_callS 86 1 9),
  (9, mo_aload 0 10),
  (10, mo_getR 8 2 13),
  (13, mo_iload 1 14),
  (14, mo_iload 2 15),
  (15, mo_callV 42 4 2 18),
  (18, mo_iret)]
def md_68 : mMD := ((yX9_lock, cX9_lock, 3, (some .int)), ([], []), cd_68)
/-- 69: Trellistag.weight(I)I -/
def cd_69 : List (Nat × mOP) := [(0, mo_iload 1 1),
  (1, mo_callS 85 1 4),
  (4, mo_aload 0 5),
  (5, mo_callV 89 8 0 8),
  (8, mo_aload 0 9),
  (9, mo_getR 8 1 12),
  (12, mo_aload 0 13),
  (13, mo_getR 8 0 16),
  (16, mo_callV 59 7 0 19),
  (19, mo_aload 0 20),
  (20, mo_getR 8 7 23),
  (23, mo_callV 16 1 2 26),
  (26, mo_aload 0 27),
  (27, mo_getR 8 7 30),
  (30, mo_iload 1 31),
  (31, mo_iald 32),
  (32, mo_iret)]
def md_69 : mMD := ((yX9_weight, cX9_weight, 2, (some .int)), ([], []), cd_69)
/-- 70: Trellistag.step(II)I -/
def cd_70 : List (Nat × mOP) := [(0, mo_iload 1 1),
  (1, mo_callS 86 1 4),
  (4, mo_iload 2 5),
  (5, mo_callS 85 1 8),
  (8, mo_aload 0 9),
  (9, mo_getR 8 1 12),
  (12, mo_iload 1 13),
  (13, mo_iload 2 14),
  (14, mo_callV 15 1 2 17),
  (17, mo_iret)]
def md_70 : mMD := ((yX9_step, cX9_step, 3, (some .int)), ([], []), cd_70)
/-- 71: Trellistag.path(II)I -/
def cd_71 : List (Nat × mOP) := [(0, mo_aload 0 1),
  (1, mo_aload 0 2),
  (2, mo_getR 8 4 5),
  (5, mo_iload 1 6),
  (6, mo_iload 2 7),
  (7, mo_callV 78 8 3 10),
  (10, mo_iret)]
def md_71 : mMD := ((yX9_path, cX9_path, 3, (some .int)), ([], []), cd_71)
/-- 72: Trellistag.pathAnew(II)I -/
def cd_72 : List (Nat × mOP) := [(0, mo_aload 0 1),
  (1, mo_aload 0 2),
  (2, mo_getR 8 5 5),
  (5, mo_iload 1 6),
  (6, mo_iload 2 7),
  (7, mo_callV 78 8 3 10),
  (10, mo_iret)]
def md_72 : mMD := ((yX9_pathAnew, cX9_pathAnew, 3, (some .int)), ([], []), cd_72)
/-- 73: Trellistag.product(I)J -/
def cd_73 : List (Nat × mOP) := [(0, mo_iload 1 1),
  (1, mo_callS 87 1 4),
  (4, mo_aload 0 5),
  (5, mo_callV 90 8 0 8),
  (8, mo_aload 0 9),
  (9, mo_aload 0 10),
  (10, mo_getR 8 4 13),
  (13, mo_callV 79 8 1 16),
  (16, mo_aload 0 17),
  (17, mo_getR 8 6 20),
  (20, mo_iload 1 21),
  (21, mo_callV 33 3 1 24),
  (24, mo_lret)]
def md_73 : mMD := ((yX9_product, cX9_product, 2, (some .long)), ([], []), cd_73)
/-- 74: Trellistag.cost()I -/
def cd_74 : List (Nat × mOP) := [(0, mo_aload 0 1),
  (1, mo_callV 90 8 0 4),
  (4, mo_aload 0 5),
  (5, mo_aload 0 6),
  (6, mo_getR 8 4 9),
  (9, mo_callV 79 8 1 12),
  (12, mo_aload 0 13),
  (13, mo_getR 8 6 16),
  (16, mo_const (vI 0) 17),
  (17, mo_callV 33 3 1 20),
  (20, mo_callS 83 1 23),
  (23, mo_iret)]
def md_74 : mMD := ((yX9_cost, cX9_cost, 1, (some .int)), ([], []), cd_74)
/-- 75: Trellistag.share(II)I -/
def cd_75 : List (Nat × mOP) := [(0, mo_aload 0 1),
  (1, mo_aload 0 2),
  (2, mo_getR 8 4 5),
  (5, mo_iload 1 6),
  (6, mo_iload 2 7),
  (7, mo_callV 80 8 3 10),
  (10, mo_iret)]
def md_75 : mMD := ((yX9_share, cX9_share, 3, (some .int)), ([], []), cd_75)
/-- 76: Trellistag.shareAnew(II)I -/
def cd_76 : List (Nat × mOP) := [(0, mo_aload 0 1),
  (1, mo_aload 0 2),
  (2, mo_getR 8 5 5),
  (5, mo_iload 1 6),
  (6, mo_iload 2 7),
  (7, mo_callV 80 8 3 10),
  (10, mo_iret)]
def md_76 : mMD := ((yX9_shareAnew, cX9_shareAnew, 3, (some .int)), ([], []), cd_76)
/-- 77: Trellistag.texts()I -/
def cd_77 : List (Nat × mOP) := [(0, mo_aload 0 1),
  (1, mo_getR 8 1 4),
  (4, mo_callV 11 1 0 7),
  (7, mo_iret)]
def md_77 : mMD := ((yX9_texts, cX9_texts, 1, (some .int)), ([], []), cd_77)
/-- 78: Trellistag.tagOnPath(LTrellistag$PathFinder;II)I -/
def cd_78 : List (Nat × mOP) := [(0, mo_aload 0 1),
  (1, mo_iload 3 2),
  (2, mo_callV 88 8 1 5),
  (5, mo_iload 2 6),
  (6, mo_callS 87 1 9),
  (9, mo_aload 0 10),
  (10, mo_aload 1 11),
  (11, mo_callV 79 8 1 14),
  (14, mo_aload 0 15),
  (15, mo_getR 8 6 18),
  (18, mo_iload 2 19),
  (19, mo_aload 0 20),
  (20, mo_getR 8 2 23),
  (23, mo_callV 37 4 0 26),
  (26, mo_const (vI 1) 27),
  (27, mo_isub 28),
  (28, mo_iload 3 29),
  (29, mo_isub 30),
  (30, mo_callV 34 3 2 33),
  (33, mo_iret)]
def md_78 : mMD := ((yX9_tagOnPath, cX9_tagOnPath, 4, (some .int)), ([], []), cd_78)
/-- 79: Trellistag.rankPaths(LTrellistag$PathFinder;)V -/
def cd_79 : List (Nat × mOP) := [(0, mo_aload 0 1),
  (1, mo_getR 8 3 4),
  (4, mo_callV 23 2 0 7),
  (7, mo_aload 0 8),
  (8, mo_getR 8 6 11),
  (11, mo_callV 28 3 0 14),
  (14, mo_aload 1 15),
  (15, mo_aload 0 16),
  (16, mo_getR 8 6 19),
  (19, mo_callU 1 0 49 6 1 22),
  (22, mo_vret)]
def md_79 : mMD := ((yX9_rankPaths, cX9_rankPaths, 2, none), ([], []), cd_79)
/-- 80: Trellistag.shareOfTag(LTrellistag$PathFinder;II)I -/
def cd_80 : List (Nat × mOP) := [(0, mo_aload 0 1),
  (1, mo_iload 2 2),
  (2, mo_callV 88 8 1 5),
  (5, mo_iload 3 6),
  (6, mo_callS 85 1 9),
  (9, mo_aload 0 10),
  (10, mo_getR 8 3 13),
  (13, mo_callV 23 2 0 16),
  (16, mo_aload 1 17),
  (17, mo_aload 0 18),
  (18, mo_getR 8 8 21),
  (21, mo_iload 2 22),
  (22, mo_callU 2 0 52 6 2 25),
  (25, mo_aload 0 26),
  (26, mo_getR 8 8 29),
  (29, mo_iload 3 30),
  (30, mo_lald 31),
  (31, mo_aload 0 32),
  (32, mo_getR 8 8 35),
  (35, mo_callS 81 1 38),
  (38, mo_callS 82 2 41),
  (41, mo_iret)]
def md_80 : mMD := ((yX9_shareOfTag, cX9_shareOfTag, 4, (some .int)), ([], []), cd_80)
/-- 81: Trellistag.total([J)J -/
def cd_81 : List (Nat × mOP) := [(0, mo_const (vJ 0) 1),
  (1, mo_lstore 1 2),
  (2, mo_aload 0 3),
  (3, mo_astore 3 4),
  (4, mo_aload 3 5),
  (5, mo_alen 2 6),
  (6, mo_istore 4 8),
  (8, mo_const (vI 0) 9),
  (9, mo_istore 5 11),
  (11, mo_iload 5 13),
  (13, mo_iload 4 15),
  (15, mo_icmp 3 35 18),
  (18, mo_aload 3 19),
  (19, mo_iload 5 21),
  (21, mo_lald 22),
  (22, mo_lstore 6 24),
  (24, mo_lload 1 25),
  (25, mo_lload 6 27),
  (27, mo_ladd 28),
  (28, mo_lstore 1 29),
  (29, mo_iinc 5 1 32),
  (32, mo_goto 11),
  (35, mo_lload 1 36),
  (36, mo_lret)]
def md_81 : mMD := ((yX9_total, cX9_total, 8, (some .long)), ([], []), cd_81)
/-- 82: Trellistag.thousandths(JJ)I -/
def cd_82 : List (Nat × mOP) := [(0, mo_lload 2 1),
  (1, mo_const (vJ 0) 2),
  (2, mo_lcmp 3),
  (3, mo_if 5 17 6),
  (6, mo_const (vJ 1000) 9),
  (9, mo_lload 0 10),
  (10, mo_lmul 11),
  (11, mo_lload 2 12),
  (12, mo_ldiv 13),
  (13, mo_l2i 14),
  (14, mo_goto 18),
  (17, mo_const (vI 0) 18),
  (18, mo_iret)]
def md_82 : mMD := ((yX9_thousandths, cX9_thousandths, 4, (some .int)), ([], []), cd_82)
/-- 83: Trellistag.doublings(J)I -/
def cd_83 : List (Nat × mOP) := [(0, mo_lload 0 1),
  (1, mo_lstore 2 2),
  (2, mo_const (vI 0) 3),
  (3, mo_istore 4 5),
  (5, mo_iload 4 7),
  (7, mo_const (vI 60) 9),
  (9, mo_icmp 3 30 12),
  (12, mo_lload 2 13),
  (13, mo_const (vJ 1152921504606846975) 16),
  (16, mo_lcmp 17),
  (17, mo_if 4 30 20),
  (20, mo_lload 2 21),
  (21, mo_lload 2 22),
  (22, mo_ladd 23),
  (23, mo_lstore 2 24),
  (24, mo_iinc 4 1 27),
  (27, mo_goto 5),
  (30, mo_iload 4 32),
  (32, mo_iret)]
def md_83 : mMD := ((yX9_doublings, cX9_doublings, 5, (some .int)), ([], []), cd_83)
/-- 84: Trellistag.isTag(I)Z -/
def cd_84 : List (Nat × mOP) := [(0, mo_iload 0 1),
  (1, mo_if 2 13 4),
  (4, mo_iload 0 5),
  (5, mo_const (vI 5) 6),
  (6, mo_icmp 3 13 9),
  (9, mo_const (vI 1) 10),
  (10, mo_goto 14),
  (13, mo_const (vI 0) 14),
  (14, mo_zret)]
def md_84 : mMD := ((yX9_isTag, cX9_isTag, 1, (some .boolean)), ([], []), cd_84)
/-- 85: Trellistag.requireTag(I)V -/
def cd_85 : List (Nat × mOP) := [(0, mo_iload 0 1),
  (1, mo_callS 84 1 4),
  (4, mo_if 1 17 7),
  (7, mo_thr 2),
  (17, mo_vret)]
def md_85 : mMD := ((yX9_requireTag, cX9_requireTag, 1, none), ([], []), cd_85)
/-- 86: Trellistag.requireTagOrNone(I)V -/
def cd_86 : List (Nat × mOP) := [(0, mo_iload 0 1),
  (1, mo_const (vI (-1)) 2),
  (2, mo_icmp 0 9 5),
  (5, mo_iload 0 6),
  (6, mo_callS 85 1 9),
  (9, mo_vret)]
def md_86 : mMD := ((yX9_requireTagOrNone, cX9_requireTagOrNone, 1, none), ([], []), cd_86)
/-- 87: Trellistag.requireRank(I)V -/
def cd_87 : List (Nat × mOP) := [(0, mo_iload 0 1),
  (1, mo_if 2 10 4),
  (4, mo_iload 0 5),
  (5, mo_const (vI 10) 7),
  (7, mo_icmp 2 20 10),
  (10, mo_thr 2),
  (20, mo_vret)]
def md_87 : mMD := ((yX9_requireRank, cX9_requireRank, 1, none), ([], []), cd_87)
/-- 88: Trellistag.requirePlace(I)V -/
def cd_88 : List (Nat × mOP) := [(0, mo_iload 1 1),
  (1, mo_if 2 15 4),
  (4, mo_iload 1 5),
  (5, mo_aload 0 6),
  (6, mo_getR 8 2 9),
  (9, mo_callV 37 4 0 12),
  (12, mo_icmp 2 25 15),
  (15, mo_thr 2),
  (25, mo_vret)]
def md_88 : mMD := ((yX9_requirePlace, cX9_requirePlace, 2, none), ([], []), cd_88)
/-- 89: Trellistag.requireTyped()V -/
def cd_89 : List (Nat × mOP) := [(0, mo_aload 0 1),
  (1, mo_getR 8 0 4),
  (4, mo_callV 56 7 0 7),
  (7, mo_if 0 20 10),
  (10, mo_thr 1),
  (20, mo_vret)]
def md_89 : mMD := ((yX9_requireTyped, cX9_requireTyped, 1, none), ([], []), cd_89)
/-- 90: Trellistag.requireSentence()V -/
def cd_90 : List (Nat × mOP) := [(0, mo_aload 0 1),
  (1, mo_getR 8 2 4),
  (4, mo_callV 37 4 0 7),
  (7, mo_if 1 20 10),
  (10, mo_thr 1),
  (20, mo_vret)]
def md_90 : mMD := ((yX9_requireSentence, cX9_requireSentence, 1, none), ([], []), cd_90)
/-- 91: TrellistagModel.<init>()V -/
def cd_91 : List (Nat × mOP) := [(0, mo_aload 0 1),
  (1, mo_objinit 4),
  (4, mo_aload 0 5),
  (5, mo_const (vI 6) 7),
  (7, mo_newa 1 9),
  (9, mo_putR 9 3 12),
  (12, mo_aload 0 13),
  (13, mo_const (vI 6) 15),
  (15, mo_newa 1 17),
  (17, mo_putR 9 4 20),
  (20, mo_aload 0 21),
  (21, mo_const (vI 120) 23),
  (23, mo_newa 1 25),
  (25, mo_putR 9 6 28),
  (28, mo_aload 0 29),
  (29, mo_const (vI 120) 31),
  (31, mo_newa 1 33),
  (33, mo_putR 9 7 36),
  (36, mo_aload 0 37),
  (37, mo_const (vI 20) 39),
  (39, mo_newa 1 41),
  (41, mo_putR 9 8 44),
  (44, mo_aload 0 45),
  (45, mo_const (vI 20) 47),
  (47, mo_newa 3 49),
  (49, mo_putR 9 9 52),
  (52, mo_aload 0 53),
  (53, mo_const (vI 5) 54),
  (54, mo_newa 1 56),
  (56, mo_putR 9 11 59),
  (59, mo_aload 0 60),
  (60, mo_const (vI 5) 61),
  (61, mo_newa 1 63),
  (63, mo_putR 9 12 66),
  (66, mo_aload 0 67),
  (67, mo_const (vI 25) 69),
  (69, mo_newa 2 71),
  (71, mo_putR 9 14 74),
  (74, mo_aload 0 75),
  (75, mo_const (vI 25) 77),
  (77, mo_newa 2 79),
  (79, mo_putR 9 15 82),
  (82, mo_aload 0 83),
  (83, mo_const (vI 5) 84),
  (84, mo_newa 2 86),
  (86, mo_putR 9 16 89),
  (89, mo_aload 0 90),
  (90, mo_const (vI 10) 92),
  (92, mo_newa 2 94),
  (94, mo_putR 9 17 97),
  (97, mo_aload 0 98),
  (98, mo_const (vI 10) 100),
  (100, mo_newa 1 102),
  (102, mo_putR 9 18 105),
  (105, mo_aload 0 106),
  (106, mo_const (vI 0) 107),
  (107, mo_putI 9 1 110),
  (110, mo_vret)]
def md_91 : mMD := ((yX10_init, cX10_init, 1, none), ([], []), cd_91)
/-- 92: TrellistagModel.thrown()I -/
def cd_92 : List (Nat × mOP) := [(0, mo_aload 0 1),
  (1, mo_getI 9 0 4),
  (4, mo_iret)]
def md_92 : mMD := ((yX10_thrown, cX10_thrown, 1, (some .int)), ([], []), cd_92)
/-- 93: TrellistagModel.holds(I)Z -/
def cd_93 : List (Nat × mOP) := [(0, mo_aload 0 1),
  (1, mo_iload 1 2),
  (2, mo_putI 9 0 5),
  (5, mo_iload 1 6),
  (6, mo_if 1 13 9),
  (9, mo_const (vI 1) 10),
  (10, mo_goto 14),
  (13, mo_const (vI 0) 14),
  (14, mo_zret)]
def md_93 : mMD := ((yX10_holds, cX10_holds, 2, (some .boolean)), ([], []), cd_93)
/-- 94: TrellistagModel.isIn(III)Z -/
def cd_94 : List (Nat × mOP) := [(0, mo_iload 0 1),
  (1, mo_iload 1 2),
  (2, mo_icmp 2 14 5),
  (5, mo_iload 0 6),
  (6, mo_iload 2 7),
  (7, mo_icmp 4 14 10),
  (10, mo_const (vI 1) 11),
  (11, mo_goto 15),
  (14, mo_const (vI 0) 15),
  (15, mo_zret)]
def md_94 : mMD := ((yX10_isIn, cX10_isIn, 3, (some .boolean)), ([], []), cd_94)
/-- 95: TrellistagModel.isTag(I)Z -/
def cd_95 : List (Nat × mOP) := [(0, mo_iload 0 1),
  (1, mo_const (vI 0) 2),
  (2, mo_const (vI 4) 3),
  (3, mo_callS 94 3 6),
  (6, mo_zret)]
def md_95 : mMD := ((yX10_isTag, cX10_isTag, 1, (some .boolean)), ([], []), cd_95)
/-- 96: TrellistagModel.isPlace(I)Z -/
def cd_96 : List (Nat × mOP) := [(0, mo_iload 1 1),
  (1, mo_const (vI 0) 2),
  (2, mo_aload 0 3),
  (3, mo_getI 9 13 6),
  (6, mo_const (vI 1) 7),
  (7, mo_isub 8),
  (8, mo_callS 94 3 11),
  (11, mo_zret)]
def md_96 : mMD := ((yX10_isPlace, cX10_isPlace, 2, (some .boolean)), ([], []), cd_96)
/-- 97: TrellistagModel.letter(C)I -/
def cd_97 : List (Nat × mOP) := [(0, mo_aload 0 1),
  (1, mo_iload 1 2),
  (2, mo_const (vI 97) 4),
  (4, mo_const (vI 122) 6),
  (6, mo_callS 94 3 9),
  (9, mo_if 1 16 12),
  (12, mo_const (vI 1) 13),
  (13, mo_goto 30),
  (16, mo_aload 0 17),
  (17, mo_getI 9 2 20),
  (20, mo_const (vI 6) 22),
  (22, mo_icmp 1 29 25),
  (25, mo_const (vI 2) 26),
  (26, mo_goto 30),
  (29, mo_const (vI 0) 30),
  (30, mo_callV 93 9 1 33),
  (33, mo_if 1 38 36),
  (36, mo_const (vI 0) 37),
  (37, mo_iret),
  (38, mo_aload 0 39),
  (39, mo_const (vI 27) 41),
  (41, mo_aload 0 42),
  (42, mo_getI 9 1 45),
  (45, mo_imul 46),
  (46, mo_iload 1 47),
  (47, mo_iadd 48),
  (48, mo_const (vI 97) 50),
  (50, mo_isub 51),
  (51, mo_const (vI 1) 52),
  (52, mo_iadd 53),
  (53, mo_putI 9 1 56),
  (56, mo_aload 0 57),
  (57, mo_dup 58),
  (58, mo_getI 9 2 61),
  (61, mo_const (vI 1) 62),
  (62, mo_iadd 63),
  (63, mo_putI 9 2 66),
  (66, mo_aload 0 67),
  (67, mo_getI 9 2 70),
  (70, mo_iret)]
def md_97 : mMD := ((yX10_letter, cX10_letter, 2, (some .int)), ([], []), cd_97)
/-- 98: TrellistagModel.takes()I -/
def cd_98 : List (Nat × mOP) := [(0, mo_aload 0 1),
  (1, mo_getI 9 1 4),
  (4, mo_istore 1 5),
  (5, mo_aload 0 6),
  (6, mo_const (vI 0) 7),
  (7, mo_putI 9 1 10),
  (10, mo_aload 0 11),
  (11, mo_const (vI 0) 12),
  (12, mo_putI 9 2 15),
  (15, mo_iload 1 16),
  (16, mo_iret)]
def md_98 : mMD := ((yX10_takes, cX10_takes, 2, (some .int)), ([], []), cd_98)
/-- 99: TrellistagModel.tag(I)I -/
def cd_99 : List (Nat × mOP) := [(0, mo_aload 0 1),
  (1, mo_iload 1 2),
  (2, mo_callS 95 1 5),
  (5, mo_if 1 12 8),
  (8, mo_const (vI 1) 9),
  (9, mo_goto 33),
  (12, mo_aload 0 13),
  (13, mo_getI 9 2 16),
  (16, mo_if 0 28 19),
  (19, mo_aload 0 20),
  (20, mo_getI 9 5 23),
  (23, mo_const (vI 6) 25),
  (25, mo_icmp 1 32 28),
  (28, mo_const (vI 2) 29),
  (29, mo_goto 33),
  (32, mo_const (vI 0) 33),
  (33, mo_callV 93 9 1 36),
  (36, mo_if 1 41 39),
  (39, mo_const (vI 0) 40),
  (40, mo_iret),
  (41, mo_aload 0 42),
  (42, mo_getR 9 3 45),
  (45, mo_aload 0 46),
  (46, mo_getI 9 5 49),
  (49, mo_aload 0 50),
  (50, mo_callV 98 9 0 53),
  (53, mo_iast 54),
  (54, mo_aload 0 55),
  (55, mo_getR 9 4 58),
  (58, mo_aload 0 59),
  (59, mo_getI 9 5 62),
  (62, mo_iload 1 63),
  (63, mo_iast 64),
  (64, mo_aload 0 65),
  (65, mo_dup 66),
  (66, mo_getI 9 5 69),
  (69, mo_const (vI 1) 70),
  (70, mo_iadd 71),
  (71, mo_putI 9 5 74),
  (74, mo_aload 0 75),
  (75, mo_getI 9 5 78),
  (78, mo_iret)]
def md_99 : mMD := ((yX10_tag, cX10_tag, 2, (some .int)), ([], []), cd_99)
/-- 100: TrellistagModel.add()I -/
def cd_100 : List (Nat × mOP) := [(0, mo_aload 0 1),
  (1, mo_aload 0 2),
  (2, mo_getI 9 5 5),
  (5, mo_if 0 17 8),
  (8, mo_aload 0 9),
  (9, mo_getI 9 10 12),
  (12, mo_const (vI 20) 14),
  (14, mo_icmp 1 21 17),
  (17, mo_const (vI 1) 18),
  (18, mo_goto 22),
  (21, mo_const (vI 0) 22),
  (22, mo_callV 93 9 1 25),
  (25, mo_if 1 30 28),
  (28, mo_const (vI 0) 29),
  (29, mo_iret),
  (30, mo_const (vI 0) 31),
  (31, mo_istore 1 32),
  (32, mo_iload 1 33),
  (33, mo_aload 0 34),
  (34, mo_getI 9 5 37),
  (37, mo_icmp 3 86 40),
  (40, mo_aload 0 41),
  (41, mo_getR 9 6 44),
  (44, mo_const (vI 6) 46),
  (46, mo_aload 0 47),
  (47, mo_getI 9 10 50),
  (50, mo_imul 51),
  (51, mo_iload 1 52),
  (52, mo_iadd 53),
  (53, mo_aload 0 54),
  (54, mo_getR 9 3 57),
  (57, mo_iload 1 58),
  (58, mo_iald 59),
  (59, mo_iast 60),
  (60, mo_aload 0 61),
  (61, mo_getR 9 7 64),
  (64, mo_const (vI 6) 66),
  (66, mo_aload 0 67),
  (67, mo_getI 9 10 70),
  (70, mo_imul 71),
  (71, mo_iload 1 72),
  (72, mo_iadd 73),
  (73, mo_aload 0 74),
  (74, mo_getR 9 4 77),
  (77, mo_iload 1 78),
  (78, mo_iald 79),
  (79, mo_iast 80),
  (80, mo_iinc 1 1 83),
  (83, mo_goto 32),
  (86, mo_aload 0 87),
  (87, mo_getR 9 8 90),
  (90, mo_aload 0 91),
  (91, mo_getI 9 10 94),
  (94, mo_aload 0 95),
  (95, mo_getI 9 5 98),
  (98, mo_iast 99),
  (99, mo_aload 0 100),
  (100, mo_getR 9 9 103),
  (103, mo_aload 0 104),
  (104, mo_getI 9 10 107),
  (107, mo_const (vI 1) 108),
  (108, mo_zast 109),
  (109, mo_aload 0 110),
  (110, mo_const (vI 0) 111),
  (111, mo_putI 9 5 114),
  (114, mo_aload 0 115),
  (115, mo_dup 116),
  (116, mo_getI 9 10 119),
  (119, mo_const (vI 1) 120),
  (120, mo_iadd 121),
  (121, mo_putI 9 10 124),
  (124, mo_aload 0 125),
  (125, mo_getI 9 10 128),
  (128, mo_const (vI 1) 129),
  (129, mo_isub 130),
  (130, mo_iret)]
def md_100 : mMD := ((yX10_add, cX10_add, 2, (some .int)), ([], []), cd_100)
/-- 101: TrellistagModel.text(IZ)Z -/
def cd_101 : List (Nat × mOP) := [(0, mo_aload 0 1),
  (1, mo_iload 1 2),
  (2, mo_const (vI 0) 3),
  (3, mo_aload 0 4),
  (4, mo_getI 9 10 7),
  (7, mo_const (vI 1) 8),
  (8, mo_isub 9),
  (9, mo_callS 94 3 12),
  (12, mo_if 0 19 15),
  (15, mo_const (vI 0) 16),
  (16, mo_goto 20),
  (19, mo_const (vI 1) 20),
  (20, mo_callV 93 9 1 23),
  (23, mo_if 1 28 26),
  (26, mo_const (vI 0) 27),
  (27, mo_zret),
  (28, mo_aload 0 29),
  (29, mo_getR 9 9 32),
  (32, mo_iload 1 33),
  (33, mo_zald 34),
  (34, mo_istore 3 35),
  (35, mo_aload 0 36),
  (36, mo_getR 9 9 39),
  (39, mo_iload 1 40),
  (40, mo_iload 2 41),
  (41, mo_zast 42),
  (42, mo_iload 3 43),
  (43, mo_zret)]
def md_101 : mMD := ((yX10_text, cX10_text, 4, (some .boolean)), ([], []), cd_101)
/-- 102: TrellistagModel.word()I -/
def cd_102 : List (Nat × mOP) := [(0, mo_aload 0 1),
  (1, mo_aload 0 2),
  (2, mo_getI 9 2 5),
  (5, mo_if 0 16 8),
  (8, mo_aload 0 9),
  (9, mo_getI 9 13 12),
  (12, mo_const (vI 5) 13),
  (13, mo_icmp 1 20 16),
  (16, mo_const (vI 1) 17),
  (17, mo_goto 21),
  (20, mo_const (vI 0) 21),
  (21, mo_callV 93 9 1 24),
  (24, mo_if 1 29 27),
  (27, mo_const (vI 0) 28),
  (28, mo_iret),
  (29, mo_aload 0 30),
  (30, mo_getR 9 11 33),
  (33, mo_aload 0 34),
  (34, mo_getI 9 13 37),
  (37, mo_aload 0 38),
  (38, mo_callV 98 9 0 41),
  (41, mo_iast 42),
  (42, mo_aload 0 43),
  (43, mo_getR 9 12 46),
  (46, mo_aload 0 47),
  (47, mo_getI 9 13 50),
  (50, mo_const (vI (-1)) 51),
  (51, mo_iast 52),
  (52, mo_aload 0 53),
  (53, mo_dup 54),
  (54, mo_getI 9 13 57),
  (57, mo_const (vI 1) 58),
  (58, mo_iadd 59),
  (59, mo_putI 9 13 62),
  (62, mo_aload 0 63),
  (63, mo_getI 9 13 66),
  (66, mo_iret)]
def md_102 : mMD := ((yX10_word, cX10_word, 1, (some .int)), ([], []), cd_102)
/-- 103: TrellistagModel.clear()I -/
def cd_103 : List (Nat × mOP) := [(0, mo_aload 0 1),
  (1, mo_const (vI 0) 2),
  (2, mo_putI 9 0 5),
  (5, mo_aload 0 6),
  (6, mo_getI 9 13 9),
  (9, mo_istore 1 10),
  (10, mo_aload 0 11),
  (11, mo_const (vI 0) 12),
  (12, mo_putI 9 13 15),
  (15, mo_iload 1 16),
  (16, mo_iret)]
def md_103 : mMD := ((yX10_clear, cX10_clear, 2, (some .int)), ([], []), cd_103)
/-- 104: TrellistagModel.lock(II)I -/
def cd_104 : List (Nat × mOP) := [(0, mo_aload 0 1),
  (1, mo_aload 0 2),
  (2, mo_iload 1 3),
  (3, mo_callV 96 9 1 6),
  (6, mo_if 0 22 9),
  (9, mo_iload 2 10),
  (10, mo_const (vI (-1)) 11),
  (11, mo_const (vI 4) 12),
  (12, mo_callS 94 3 15),
  (15, mo_if 0 22 18),
  (18, mo_const (vI 0) 19),
  (19, mo_goto 23),
  (22, mo_const (vI 1) 23),
  (23, mo_callV 93 9 1 26),
  (26, mo_if 1 31 29),
  (29, mo_const (vI 0) 30),
  (30, mo_iret),
  (31, mo_aload 0 32),
  (32, mo_getR 9 12 35),
  (35, mo_iload 1 36),
  (36, mo_iald 37),
  (37, mo_istore 3 38),
  (38, mo_aload 0 39),
  (39, mo_getR 9 12 42),
  (42, mo_iload 1 43),
  (43, mo_iload 2 44),
  (44, mo_iast 45),
  (45, mo_iload 3 46),
  (46, mo_iret)]
def md_104 : mMD := ((yX10_lock, cX10_lock, 4, (some .int)), ([], []), cd_104)
/-- 105: TrellistagModel.often(III)I -/
def cd_105 : List (Nat × mOP) := [(0, mo_const (vI 0) 1),
  (1, mo_istore 4 3),
  (3, mo_const (vI 0) 4),
  (4, mo_istore 5 6),
  (6, mo_iload 5 8),
  (8, mo_aload 0 9),
  (9, mo_getI 9 10 12),
  (12, mo_icmp 3 103 15),
  (15, mo_const (vI 6) 17),
  (17, mo_iload 5 19),
  (19, mo_imul 20),
  (20, mo_istore 6 22),
  (22, mo_iload 6 24),
  (24, mo_const (vI 6) 26),
  (26, mo_iload 5 28),
  (28, mo_imul 29),
  (29, mo_aload 0 30),
  (30, mo_getR 9 8 33),
  (33, mo_iload 5 35),
  (35, mo_iald 36),
  (36, mo_iadd 37),
  (37, mo_icmp 3 97 40),
  (40, mo_aload 0 41),
  (41, mo_getR 9 9 44),
  (44, mo_iload 5 46),
  (46, mo_zald 47),
  (47, mo_if 0 97 50),
  (50, mo_iload 4 52),
  (52, mo_aload 0 53),
  (53, mo_getR 9 6 56),
  (56, mo_iload 6 58),
  (58, mo_iald 59),
  (59, mo_iload 2 60),
  (60, mo_irem 61),
  (61, mo_iload 1 62),
  (62, mo_iload 2 63),
  (63, mo_irem 64),
  (64, mo_icmp 1 87 67),
  (67, mo_iload 3 68),
  (68, mo_const (vI (-1)) 69),
  (69, mo_icmp 0 83 72),
  (72, mo_aload 0 73),
  (73, mo_getR 9 7 76),
  (76, mo_iload 6 78),
  (78, mo_iald 79),
  (79, mo_iload 3 80),
  (80, mo_icmp 1 87 83),
  (83, mo_const (vI 1) 84),
  (84, mo_goto 88),
  (87, mo_const (vI 0) 88),
  (88, mo_iadd 89),
  (89, mo_istore 4 91),
  (91, mo_iinc 6 1 94),
  (94, mo_goto 22),
  (97, mo_iinc 5 1 100),
  (100, mo_goto 6),
  (103, mo_iload 4 105),
  (105, mo_iret)]
def md_105 : mMD := ((yX10_often, cX10_often, 7, (some .int)), ([], []), cd_105)
/-- 106: TrellistagModel.atMost(II)I -/
def cd_106 : List (Nat × mOP) := [(0, mo_iload 0 1),
  (1, mo_iload 1 2),
  (2, mo_icmp 5 9 5),
  (5, mo_iload 1 6),
  (6, mo_goto 10),
  (9, mo_iload 0 10),
  (10, mo_iret)]
def md_106 : mMD := ((yX10_atMost, cX10_atMost, 2, (some .int)), ([], []), cd_106)
/-- 107: TrellistagModel.weightFor(II)I -/
def cd_107 : List (Nat × mOP) := [(0, mo_const (vI 387420489) 2),
  (2, mo_istore 3 3),
  (3, mo_aload 0 4),
  (4, mo_iload 1 5),
  (5, mo_iload 3 6),
  (6, mo_const (vI (-1)) 7),
  (7, mo_callV 105 9 3 10),
  (10, mo_if 5 30 13),
  (13, mo_const (vI 4) 14),
  (14, mo_aload 0 15),
  (15, mo_iload 1 16),
  (16, mo_iload 3 17),
  (17, mo_iload 2 18),
  (18, mo_callV 105 9 3 21),
  (21, mo_imul 22),
  (22, mo_const (vI 1) 23),
  (23, mo_iadd 24),
  (24, mo_const (vI 9) 26),
  (26, mo_callS 106 2 29),
  (29, mo_iret),
  (30, mo_const (vI 19683) 33),
  (33, mo_istore 4 35),
  (35, mo_iload 4 37),
  (37, mo_const (vI 1) 38),
  (38, mo_icmp 5 93 41),
  (41, mo_iload 1 42),
  (42, mo_i2l 43),
  (43, mo_const (vJ 27) 46),
  (46, mo_lmul 47),
  (47, mo_iload 4 49),
  (49, mo_i2l 50),
  (50, mo_lcmp 51),
  (51, mo_if 2 83 54),
  (54, mo_aload 0 55),
  (55, mo_iload 1 56),
  (56, mo_iload 4 58),
  (58, mo_const (vI (-1)) 59),
  (59, mo_callV 105 9 3 62),
  (62, mo_if 5 83 65),
  (65, mo_const (vI 2) 66),
  (66, mo_aload 0 67),
  (67, mo_iload 1 68),
  (68, mo_iload 4 70),
  (70, mo_iload 2 71),
  (71, mo_callV 105 9 3 74),
  (74, mo_imul 75),
  (75, mo_const (vI 1) 76),
  (76, mo_iadd 77),
  (77, mo_const (vI 9) 79),
  (79, mo_callS 106 2 82),
  (82, mo_iret),
  (83, mo_iload 4 85),
  (85, mo_const (vI 27) 87),
  (87, mo_idiv 88),
  (88, mo_istore 4 90),
  (90, mo_goto 35),
  (93, mo_const (vI 1) 94),
  (94, mo_iret)]
def md_107 : mMD := ((yX10_weightFor, cX10_weightFor, 5, (some .int)), ([], []), cd_107)
/-- 108: TrellistagModel.weightOf(II)I -/
def cd_108 : List (Nat × mOP) := [(0, mo_const (vI 1) 1),
  (1, mo_istore 3 2),
  (2, mo_const (vI 0) 3),
  (3, mo_istore 4 5),
  (5, mo_iload 4 7),
  (7, mo_aload 0 8),
  (8, mo_getI 9 10 11),
  (11, mo_icmp 3 106 14),
  (14, mo_const (vI 0) 15),
  (15, mo_istore 5 17),
  (17, mo_iload 5 19),
  (19, mo_aload 0 20),
  (20, mo_getR 9 8 23),
  (23, mo_iload 4 25),
  (25, mo_iald 26),
  (26, mo_icmp 3 100 29),
  (29, mo_aload 0 30),
  (30, mo_getR 9 9 33),
  (33, mo_iload 4 35),
  (35, mo_zald 36),
  (36, mo_if 0 100 39),
  (39, mo_const (vI 6) 41),
  (41, mo_iload 4 43),
  (43, mo_imul 44),
  (44, mo_iload 5 46),
  (46, mo_iadd 47),
  (47, mo_istore 6 49),
  (49, mo_iload 3 50),
  (50, mo_aload 0 51),
  (51, mo_getR 9 7 54),
  (54, mo_iload 6 56),
  (56, mo_iald 57),
  (57, mo_iload 2 58),
  (58, mo_icmp 1 91 61),
  (61, mo_iload 5 63),
  (63, mo_if 1 74 66),
  (66, mo_iload 1 67),
  (67, mo_const (vI (-1)) 68),
  (68, mo_icmp 1 91 71),
  (71, mo_goto 87),
  (74, mo_aload 0 75),
  (75, mo_getR 9 7 78),
  (78, mo_iload 6 80),
  (80, mo_const (vI 1) 81),
  (81, mo_isub 82),
  (82, mo_iald 83),
  (83, mo_iload 1 84),
  (84, mo_icmp 1 91 87),
  (87, mo_const (vI 1) 88),
  (88, mo_goto 92),
  (91, mo_const (vI 0) 92),
  (92, mo_iadd 93),
  (93, mo_istore 3 94),
  (94, mo_iinc 5 1 97),
  (97, mo_goto 17),
  (100, mo_iinc 4 1 103),
  (103, mo_goto 5),
  (106, mo_iload 3 107),
  (107, mo_const (vI 7) 109),
  (109, mo_callS 106 2 112),
  (112, mo_iret)]
def md_108 : mMD := ((yX10_weightOf, cX10_weightOf, 7, (some .int)), ([], []), cd_108)
/-- 109: TrellistagModel.lays()V -/
def cd_109 : List (Nat × mOP) := [(0, mo_const (vI 0) 1),
  (1, mo_istore 1 2),
  (2, mo_iload 1 3),
  (3, mo_const (vI 5) 4),
  (4, mo_aload 0 5),
  (5, mo_getI 9 13 8),
  (8, mo_imul 9),
  (9, mo_icmp 3 40 12),
  (12, mo_aload 0 13),
  (13, mo_getR 9 14 16),
  (16, mo_iload 1 17),
  (17, mo_aload 0 18),
  (18, mo_aload 0 19),
  (19, mo_getR 9 11 22),
  (22, mo_iload 1 23),
  (23, mo_const (vI 5) 24),
  (24, mo_idiv 25),
  (25, mo_iald 26),
  (26, mo_iload 1 27),
  (27, mo_const (vI 5) 28),
  (28, mo_irem 29),
  (29, mo_callV 107 9 2 32),
  (32, mo_i2l 33),
  (33, mo_last 34),
  (34, mo_iinc 1 1 37),
  (37, mo_goto 2),
  (40, mo_const (vI 0) 41),
  (41, mo_istore 1 42),
  (42, mo_iload 1 43),
  (43, mo_const (vI 25) 45),
  (45, mo_icmp 3 71 48),
  (48, mo_aload 0 49),
  (49, mo_getR 9 15 52),
  (52, mo_iload 1 53),
  (53, mo_aload 0 54),
  (54, mo_iload 1 55),
  (55, mo_const (vI 5) 56),
  (56, mo_idiv 57),
  (57, mo_iload 1 58),
  (58, mo_const (vI 5) 59),
  (59, mo_irem 60),
  (60, mo_callV 108 9 2 63),
  (63, mo_i2l 64),
  (64, mo_last 65),
  (65, mo_iinc 1 1 68),
  (68, mo_goto 42),
  (71, mo_const (vI 0) 72),
  (72, mo_istore 1 73),
  (73, mo_iload 1 74),
  (74, mo_const (vI 5) 75),
  (75, mo_icmp 3 97 78),
  (78, mo_aload 0 79),
  (79, mo_getR 9 16 82),
  (82, mo_iload 1 83),
  (83, mo_aload 0 84),
  (84, mo_const (vI (-1)) 85),
  (85, mo_iload 1 86),
  (86, mo_callV 108 9 2 89),
  (89, mo_i2l 90),
  (90, mo_last 91),
  (91, mo_iinc 1 1 94),
  (94, mo_goto 73),
  (97, mo_vret)]
def md_109 : mMD := ((yX10_lays, cX10_lays, 2, none), ([], []), cd_109)
/-- 110: TrellistagModel.paths()I -/
def cd_110 : List (Nat × mOP) := [(0, mo_const (vI 1) 1),
  (1, mo_istore 1 2),
  (2, mo_const (vI 0) 3),
  (3, mo_istore 2 4),
  (4, mo_iload 2 5),
  (5, mo_aload 0 6),
  (6, mo_getI 9 13 9),
  (9, mo_icmp 3 22 12),
  (12, mo_iload 1 13),
  (13, mo_const (vI 5) 14),
  (14, mo_imul 15),
  (15, mo_istore 1 16),
  (16, mo_iinc 2 1 19),
  (19, mo_goto 4),
  (22, mo_iload 1 23),
  (23, mo_iret)]
def md_110 : mMD := ((yX10_paths, cX10_paths, 3, (some .int)), ([], []), cd_110)
/-- 111: TrellistagModel.tagAt(II)I -/
def cd_111 : List (Nat × mOP) := [(0, mo_iload 1 1),
  (1, mo_istore 3 2),
  (2, mo_aload 0 3),
  (3, mo_getI 9 13 6),
  (6, mo_const (vI 1) 7),
  (7, mo_isub 8),
  (8, mo_istore 4 10),
  (10, mo_iload 4 12),
  (12, mo_iload 2 13),
  (13, mo_icmp 5 26 16),
  (16, mo_iload 3 17),
  (17, mo_const (vI 5) 18),
  (18, mo_idiv 19),
  (19, mo_istore 3 20),
  (20, mo_iinc 4 (-1) 23),
  (23, mo_goto 10),
  (26, mo_iload 3 27),
  (27, mo_const (vI 5) 28),
  (28, mo_irem 29),
  (29, mo_iret)]
def md_111 : mMD := ((yX10_tagAt, cX10_tagAt, 5, (some .int)), ([], []), cd_111)
/-- 112: TrellistagModel.weightOfPath(I)J -/
def cd_112 : List (Nat × mOP) := [(0, mo_const (vJ 1) 1),
  (1, mo_lstore 2 2),
  (2, mo_const (vI 0) 3),
  (3, mo_istore 4 5),
  (5, mo_iload 4 7),
  (7, mo_aload 0 8),
  (8, mo_getI 9 13 11),
  (11, mo_icmp 3 104 14),
  (14, mo_aload 0 15),
  (15, mo_iload 1 16),
  (16, mo_iload 4 18),
  (18, mo_callV 111 9 2 21),
  (21, mo_istore 5 23),
  (23, mo_aload 0 24),
  (24, mo_getR 9 12 27),
  (27, mo_iload 4 29),
  (29, mo_iald 30),
  (30, mo_const (vI (-1)) 31),
  (31, mo_icmp 0 48 34),
  (34, mo_aload 0 35),
  (35, mo_getR 9 12 38),
  (38, mo_iload 4 40),
  (40, mo_iald 41),
  (41, mo_iload 5 43),
  (43, mo_icmp 0 48 46),
  (46, mo_const (vJ 0) 47),
  (47, mo_lret),
  (48, mo_lload 2 49),
  (49, mo_aload 0 50),
  (50, mo_getR 9 14 53),
  (53, mo_const (vI 5) 54),
  (54, mo_iload 4 56),
  (56, mo_imul 57),
  (57, mo_iload 5 59),
  (59, mo_iadd 60),
  (60, mo_lald 61),
  (61, mo_iload 4 63),
  (63, mo_if 1 76 66),
  (66, mo_aload 0 67),
  (67, mo_getR 9 16 70),
  (70, mo_iload 5 72),
  (72, mo_lald 73),
  (73, mo_goto 95),
  (76, mo_aload 0 77),
  (77, mo_getR 9 15 80),
  (80, mo_const (vI 5) 81),
  (81, mo_aload 0 82),
  (82, mo_iload 1 83),
  (83, mo_iload 4 85),
  (85, mo_const (vI 1) 86),
  (86, mo_isub 87),
  (87, mo_callV 111 9 2 90),
  (90, mo_imul 91),
  (91, mo_iload 5 93),
  (93, mo_iadd 94),
  (94, mo_lald 95),
  (95, mo_lmul 96),
  (96, mo_lmul 97),
  (97, mo_lstore 2 98),
  (98, mo_iinc 4 1 101),
  (101, mo_goto 5),
  (104, mo_lload 2 105),
  (105, mo_lret)]
def md_112 : mMD := ((yX10_weightOfPath, cX10_weightOfPath, 6, (some .long)), ([], []), cd_112)
/-- 113: TrellistagModel.goes(II)V -/
def cd_113 : List (Nat × mOP) := [(0, mo_aload 0 1),
  (1, mo_callV 109 9 0 4),
  (4, mo_aload 0 5),
  (5, mo_const (vI 0) 6),
  (6, mo_putI 9 19 9),
  (9, mo_aload 0 10),
  (10, mo_const (vJ 0) 11),
  (11, mo_putJ 9 20 14),
  (14, mo_aload 0 15),
  (15, mo_const (vJ 0) 16),
  (16, mo_putJ 9 21 19),
  (19, mo_const (vI 0) 20),
  (20, mo_istore 3 21),
  (21, mo_iload 3 22),
  (22, mo_aload 0 23),
  (23, mo_callV 110 9 0 26),
  (26, mo_icmp 3 217 29),
  (29, mo_aload 0 30),
  (30, mo_iload 3 31),
  (31, mo_callV 112 9 1 34),
  (34, mo_lstore 4 36),
  (36, mo_aload 0 37),
  (37, mo_dup 38),
  (38, mo_getJ 9 20 41),
  (41, mo_lload 4 43),
  (43, mo_ladd 44),
  (44, mo_putJ 9 20 47),
  (47, mo_aload 0 48),
  (48, mo_dup 49),
  (49, mo_getJ 9 21 52),
  (52, mo_aload 0 53),
  (53, mo_iload 3 54),
  (54, mo_iload 1 55),
  (55, mo_callV 111 9 2 58),
  (58, mo_iload 2 59),
  (59, mo_icmp 1 67 62),
  (62, mo_lload 4 64),
  (64, mo_goto 68),
  (67, mo_const (vJ 0) 68),
  (68, mo_ladd 69),
  (69, mo_putJ 9 21 72),
  (72, mo_aload 0 73),
  (73, mo_getI 9 19 76),
  (76, mo_istore 6 78),
  (78, mo_iload 6 80),
  (80, mo_if 5 104 83),
  (83, mo_aload 0 84),
  (84, mo_getR 9 17 87),
  (87, mo_iload 6 89),
  (89, mo_const (vI 1) 90),
  (90, mo_isub 91),
  (91, mo_lald 92),
  (92, mo_lload 4 94),
  (94, mo_lcmp 95),
  (95, mo_if 3 104 98),
  (98, mo_iinc 6 (-1) 101),
  (101, mo_goto 78),
  (104, mo_lload 4 106),
  (106, mo_const (vJ 0) 107),
  (107, mo_lcmp 108),
  (108, mo_if 5 211 111),
  (111, mo_iload 6 113),
  (113, mo_const (vI 10) 115),
  (115, mo_icmp 3 211 118),
  (118, mo_aload 0 119),
  (119, mo_dup 120),
  (120, mo_getI 9 19 123),
  (123, mo_aload 0 124),
  (124, mo_getI 9 19 127),
  (127, mo_const (vI 10) 129),
  (129, mo_icmp 3 136 132),
  (132, mo_const (vI 1) 133),
  (133, mo_goto 137),
  (136, mo_const (vI 0) 137),
  (137, mo_iadd 138),
  (138, mo_putI 9 19 141),
  (141, mo_aload 0 142),
  (142, mo_getI 9 19 145),
  (145, mo_const (vI 1) 146),
  (146, mo_isub 147),
  (147, mo_istore 7 149),
  (149, mo_iload 7 151),
  (151, mo_iload 6 153),
  (153, mo_icmp 5 194 156),
  (156, mo_aload 0 157),
  (157, mo_getR 9 17 160),
  (160, mo_iload 7 162),
  (162, mo_aload 0 163),
  (163, mo_getR 9 17 166),
  (166, mo_iload 7 168),
  (168, mo_const (vI 1) 169),
  (169, mo_isub 170),
  (170, mo_lald 171),
  (171, mo_last 172),
  (172, mo_aload 0 173),
  (173, mo_getR 9 18 176),
  (176, mo_iload 7 178),
  (178, mo_aload 0 179),
  (179, mo_getR 9 18 182),
  (182, mo_iload 7 184),
  (184, mo_const (vI 1) 185),
  (185, mo_isub 186),
  (186, mo_iald 187),
  (187, mo_iast 188),
  (188, mo_iinc 7 (-1) 191),
  (191, mo_goto 149),
  (194, mo_aload 0 195),
  (195, mo_getR 9 17 198),
  (198, mo_iload 6 200),
  (200, mo_lload 4 202),
  (202, mo_last 203),
  (203, mo_aload 0 204),
  (204, mo_getR 9 18 207),
  (207, mo_iload 6 209),
  (209, mo_iload 3 210),
  (210, mo_iast 211),
  (211, mo_iinc 3 1 214),
  (214, mo_goto 21),
  (217, mo_vret)]
def md_113 : mMD := ((yX10_goes, cX10_goes, 8, none), ([], []), cd_113)
/-- 114: TrellistagModel.weight(I)I -/
def cd_114 : List (Nat × mOP) := [(0, mo_aload 0 1),
  (1, mo_iload 1 2),
  (2, mo_callS 95 1 5),
  (5, mo_if 1 12 8),
  (8, mo_const (vI 1) 9),
  (9, mo_goto 24),
  (12, mo_aload 0 13),
  (13, mo_getI 9 2 16),
  (16, mo_if 1 23 19),
  (19, mo_const (vI 2) 20),
  (20, mo_goto 24),
  (23, mo_const (vI 0) 24),
  (24, mo_callV 93 9 1 27),
  (27, mo_if 0 42 30),
  (30, mo_aload 0 31),
  (31, mo_aload 0 32),
  (32, mo_getI 9 1 35),
  (35, mo_iload 1 36),
  (36, mo_callV 107 9 2 39),
  (39, mo_goto 43),
  (42, mo_const (vI 0) 43),
  (43, mo_iret)]
def md_114 : mMD := ((yX10_weight, cX10_weight, 2, (some .int)), ([], []), cd_114)
/-- 115: TrellistagModel.step(II)I -/
def cd_115 : List (Nat × mOP) := [(0, mo_aload 0 1),
  (1, mo_iload 1 2),
  (2, mo_const (vI (-1)) 3),
  (3, mo_const (vI 4) 4),
  (4, mo_callS 94 3 7),
  (7, mo_if 0 21 10),
  (10, mo_iload 2 11),
  (11, mo_callS 95 1 14),
  (14, mo_if 0 21 17),
  (17, mo_const (vI 0) 18),
  (18, mo_goto 22),
  (21, mo_const (vI 1) 22),
  (22, mo_callV 93 9 1 25),
  (25, mo_if 0 37 28),
  (28, mo_aload 0 29),
  (29, mo_iload 1 30),
  (30, mo_iload 2 31),
  (31, mo_callV 108 9 2 34),
  (34, mo_goto 38),
  (37, mo_const (vI 0) 38),
  (38, mo_iret)]
def md_115 : mMD := ((yX10_step, cX10_step, 3, (some .int)), ([], []), cd_115)
/-- 116: TrellistagModel.isRank(I)Z -/
def cd_116 : List (Nat × mOP) := [(0, mo_iload 0 1),
  (1, mo_const (vI 0) 2),
  (2, mo_const (vI 9) 4),
  (4, mo_callS 94 3 7),
  (7, mo_zret)]
def md_116 : mMD := ((yX10_isRank, cX10_isRank, 1, (some .boolean)), ([], []), cd_116)
/-- 117: TrellistagModel.onPath(II)I -/
def cd_117 : List (Nat × mOP) := [(0, mo_aload 0 1),
  (1, mo_iload 1 2),
  (2, mo_callS 116 1 5),
  (5, mo_if 0 20 8),
  (8, mo_aload 0 9),
  (9, mo_iload 2 10),
  (10, mo_callV 96 9 1 13),
  (13, mo_if 0 20 16),
  (16, mo_const (vI 0) 17),
  (17, mo_goto 21),
  (20, mo_const (vI 1) 21),
  (21, mo_callV 93 9 1 24),
  (24, mo_if 1 29 27),
  (27, mo_const (vI 0) 28),
  (28, mo_iret),
  (29, mo_aload 0 30),
  (30, mo_const (vI 0) 31),
  (31, mo_const (vI 0) 32),
  (32, mo_callV 113 9 2 35),
  (35, mo_iload 1 36),
  (36, mo_aload 0 37),
  (37, mo_getI 9 19 40),
  (40, mo_icmp 3 57 43),
  (43, mo_aload 0 44),
  (44, mo_aload 0 45),
  (45, mo_getR 9 18 48),
  (48, mo_iload 1 49),
  (49, mo_iald 50),
  (50, mo_iload 2 51),
  (51, mo_callV 111 9 2 54),
  (54, mo_goto 58),
  (57, mo_const (vI (-1)) 58),
  (58, mo_iret)]
def md_117 : mMD := ((yX10_onPath, cX10_onPath, 3, (some .int)), ([], []), cd_117)
/-- 118: TrellistagModel.path(II)I -/
def cd_118 : List (Nat × mOP) := [(0, mo_aload 0 1),
  (1, mo_iload 1 2),
  (2, mo_iload 2 3),
  (3, mo_callV 117 9 2 6),
  (6, mo_iret)]
def md_118 : mMD := ((yX10_path, cX10_path, 3, (some .int)), ([], []), cd_118)
/-- 119: TrellistagModel.pathAnew(II)I -/
def cd_119 : List (Nat × mOP) := [(0, mo_aload 0 1),
  (1, mo_iload 1 2),
  (2, mo_iload 2 3),
  (3, mo_callV 117 9 2 6),
  (6, mo_iret)]
def md_119 : mMD := ((yX10_pathAnew, cX10_pathAnew, 3, (some .int)), ([], []), cd_119)
/-- 120: TrellistagModel.weightOfRank(I)J -/
def cd_120 : List (Nat × mOP) := [(0, mo_aload 0 1),
  (1, mo_const (vI 0) 2),
  (2, mo_const (vI 0) 3),
  (3, mo_callV 113 9 2 6),
  (6, mo_iload 1 7),
  (7, mo_aload 0 8),
  (8, mo_getI 9 19 11),
  (11, mo_icmp 3 23 14),
  (14, mo_aload 0 15),
  (15, mo_getR 9 17 18),
  (18, mo_iload 1 19),
  (19, mo_lald 20),
  (20, mo_goto 24),
  (23, mo_const (vJ 0) 24),
  (24, mo_lret)]
def md_120 : mMD := ((yX10_weightOfRank, cX10_weightOfRank, 2, (some .long)), ([], []), cd_120)
/-- 121: TrellistagModel.product(I)J -/
def cd_121 : List (Nat × mOP) := [(0, mo_aload 0 1),
  (1, mo_iload 1 2),
  (2, mo_callS 116 1 5),
  (5, mo_if 1 12 8),
  (8, mo_const (vI 1) 9),
  (9, mo_goto 24),
  (12, mo_aload 0 13),
  (13, mo_getI 9 13 16),
  (16, mo_if 1 23 19),
  (19, mo_const (vI 2) 20),
  (20, mo_goto 24),
  (23, mo_const (vI 0) 24),
  (24, mo_callV 93 9 1 27),
  (27, mo_if 0 38 30),
  (30, mo_aload 0 31),
  (31, mo_iload 1 32),
  (32, mo_callV 120 9 1 35),
  (35, mo_goto 39),
  (38, mo_const (vJ 0) 39),
  (39, mo_lret)]
def md_121 : mMD := ((yX10_product, cX10_product, 2, (some .long)), ([], []), cd_121)
/-- 122: TrellistagModel.cost()I -/
def cd_122 : List (Nat × mOP) := [(0, mo_aload 0 1),
  (1, mo_aload 0 2),
  (2, mo_getI 9 13 5),
  (5, mo_if 1 12 8),
  (8, mo_const (vI 1) 9),
  (9, mo_goto 13),
  (12, mo_const (vI 0) 13),
  (13, mo_callV 93 9 1 16),
  (16, mo_if 1 21 19),
  (19, mo_const (vI 0) 20),
  (20, mo_iret),
  (21, mo_const (vI 0) 22),
  (22, mo_istore 1 23),
  (23, mo_aload 0 24),
  (24, mo_const (vI 0) 25),
  (25, mo_callV 120 9 1 28),
  (28, mo_lstore 2 29),
  (29, mo_lload 2 30),
  (30, mo_const (vJ 1152921504606846975) 33),
  (33, mo_lcmp 34),
  (34, mo_if 4 49 37),
  (37, mo_iinc 1 1 40),
  (40, mo_lload 2 41),
  (41, mo_const (vJ 2) 44),
  (44, mo_lmul 45),
  (45, mo_lstore 2 46),
  (46, mo_goto 29),
  (49, mo_iload 1 50),
  (50, mo_iret)]
def md_122 : mMD := ((yX10_cost, cX10_cost, 4, (some .int)), ([], []), cd_122)
/-- 123: TrellistagModel.shareOf(II)I -/
def cd_123 : List (Nat × mOP) := [(0, mo_aload 0 1),
  (1, mo_aload 0 2),
  (2, mo_iload 1 3),
  (3, mo_callV 96 9 1 6),
  (6, mo_if 0 20 9),
  (9, mo_iload 2 10),
  (10, mo_callS 95 1 13),
  (13, mo_if 0 20 16),
  (16, mo_const (vI 0) 17),
  (17, mo_goto 21),
  (20, mo_const (vI 1) 21),
  (21, mo_callV 93 9 1 24),
  (24, mo_if 1 29 27),
  (27, mo_const (vI 0) 28),
  (28, mo_iret),
  (29, mo_aload 0 30),
  (30, mo_iload 1 31),
  (31, mo_iload 2 32),
  (32, mo_callV 113 9 2 35),
  (35, mo_const (vJ 1000) 38),
  (38, mo_aload 0 39),
  (39, mo_getJ 9 21 42),
  (42, mo_lmul 43),
  (43, mo_aload 0 44),
  (44, mo_getJ 9 20 47),
  (47, mo_ldiv 48),
  (48, mo_l2i 49),
  (49, mo_iret)]
def md_123 : mMD := ((yX10_shareOf, cX10_shareOf, 3, (some .int)), ([], []), cd_123)
/-- 124: TrellistagModel.share(II)I -/
def cd_124 : List (Nat × mOP) := [(0, mo_aload 0 1),
  (1, mo_iload 1 2),
  (2, mo_iload 2 3),
  (3, mo_callV 123 9 2 6),
  (6, mo_iret)]
def md_124 : mMD := ((yX10_share, cX10_share, 3, (some .int)), ([], []), cd_124)
/-- 125: TrellistagModel.shareAnew(II)I -/
def cd_125 : List (Nat × mOP) := [(0, mo_aload 0 1),
  (1, mo_iload 1 2),
  (2, mo_iload 2 3),
  (3, mo_callV 123 9 2 6),
  (6, mo_iret)]
def md_125 : mMD := ((yX10_shareAnew, cX10_shareAnew, 3, (some .int)), ([], []), cd_125)
/-- 126: TrellistagModel.texts()I -/
def cd_126 : List (Nat × mOP) := [(0, mo_aload 0 1),
  (1, mo_const (vI 0) 2),
  (2, mo_putI 9 0 5),
  (5, mo_const (vI 0) 6),
  (6, mo_istore 1 7),
  (7, mo_const (vI 0) 8),
  (8, mo_istore 2 9),
  (9, mo_iload 2 10),
  (10, mo_aload 0 11),
  (11, mo_getI 9 10 14),
  (14, mo_icmp 3 40 17),
  (17, mo_iload 1 18),
  (18, mo_aload 0 19),
  (19, mo_getR 9 9 22),
  (22, mo_iload 2 23),
  (23, mo_zald 24),
  (24, mo_if 0 31 27),
  (27, mo_const (vI 1) 28),
  (28, mo_goto 32),
  (31, mo_const (vI 0) 32),
  (32, mo_iadd 33),
  (33, mo_istore 1 34),
  (34, mo_iinc 2 1 37),
  (37, mo_goto 9),
  (40, mo_iload 1 41),
  (41, mo_iret)]
def md_126 : mMD := ((yX10_texts, cX10_texts, 3, (some .int)), ([], []), cd_126)
/-- 127: java/lang/Math.min(II)I -/
def cd_127 : List (Nat × mOP) := [(0, mo_iload 0 1),
  (1, mo_iload 1 2),
  (2, mo_icmp 4 9 5),
  (5, mo_iload 0 6),
  (6, mo_goto 10),
  (9, mo_iload 1 10),
  (10, mo_iret)]
def md_127 : mMD := ((⟨"java/lang/Math", "min", "(II)I"⟩, prog_17_method_69_code, 2, (some .int)), ([], []), cd_127)
/-- 128: TrellistagLaw.letter(LTrellistag;C[J)I -/
def cd_128 : List (Nat × mOP) := [(0, mo_aload 2 1),
  (1, mo_const (vI 0) 2),
  (2, mo_aload 0 3),
  (3, mo_iload 1 4),
  (4, mo_callV 62 8 1 7),
  (7, mo_i2l 8),
  (8, mo_last 9),
  (9, mo_goto 18),
  (18, mo_const (vI 0) 19),
  (19, mo_iret)]
def md_128 : mMD := ((yL_letter, cL_letter, 4, (some .int)), ([(0, 9, 12, 13), (0, 9, 15, 15)], [(0, 1), (1, 2)]), cd_128)
/-- 129: TrellistagLaw.tag(LTrellistag;I[J)I -/
def cd_129 : List (Nat × mOP) := [(0, mo_aload 2 1),
  (1, mo_const (vI 0) 2),
  (2, mo_aload 0 3),
  (3, mo_iload 1 4),
  (4, mo_callV 63 8 1 7),
  (7, mo_i2l 8),
  (8, mo_last 9),
  (9, mo_goto 18),
  (18, mo_const (vI 0) 19),
  (19, mo_iret)]
def md_129 : mMD := ((yL_tag, cL_tag, 4, (some .int)), ([(0, 9, 12, 21), (0, 9, 15, 15)], [(2, 1), (1, 2)]), cd_129)
/-- 130: TrellistagLaw.add(LTrellistag;[J)I -/
def cd_130 : List (Nat × mOP) := [(0, mo_aload 1 1),
  (1, mo_const (vI 0) 2),
  (2, mo_aload 0 3),
  (3, mo_callV 64 8 0 6),
  (6, mo_i2l 7),
  (7, mo_last 8),
  (8, mo_goto 14),
  (14, mo_const (vI 0) 15),
  (15, mo_iret)]
def md_130 : mMD := ((yL_add, cL_add, 3, (some .int)), ([(0, 8, 11, 15)], [(1, 1)]), cd_130)
/-- 131: TrellistagLaw.text(LTrellistag;IZ[J)I -/
def cd_131 : List (Nat × mOP) := [(0, mo_aload 3 1),
  (1, mo_const (vI 0) 2),
  (2, mo_aload 0 3),
  (3, mo_iload 1 4),
  (4, mo_iload 2 5),
  (5, mo_callV 65 8 2 8),
  (8, mo_if 0 15 11),
  (11, mo_const (vJ 1) 12),
  (12, mo_goto 16),
  (15, mo_const (vJ 0) 16),
  (16, mo_last 17),
  (17, mo_goto 24),
  (24, mo_const (vI 0) 25),
  (25, mo_iret)]
def md_131 : mMD := ((yL_text, cL_text, 5, (some .int)), ([(0, 17, 20, 21)], [(2, 1)]), cd_131)
/-- 132: TrellistagLaw.word(LTrellistag;[J)I -/
def cd_132 : List (Nat × mOP) := [(0, mo_aload 1 1),
  (1, mo_const (vI 0) 2),
  (2, mo_aload 0 3),
  (3, mo_callV 66 8 0 6),
  (6, mo_i2l 7),
  (7, mo_last 8),
  (8, mo_goto 14),
  (14, mo_const (vI 0) 15),
  (15, mo_iret)]
def md_132 : mMD := ((yL_word, cL_word, 3, (some .int)), ([(0, 8, 11, 15)], [(1, 1)]), cd_132)
/-- 133: TrellistagLaw.lock(LTrellistag;II[J)I -/
def cd_133 : List (Nat × mOP) := [(0, mo_aload 3 1),
  (1, mo_const (vI 0) 2),
  (2, mo_aload 0 3),
  (3, mo_iload 1 4),
  (4, mo_iload 2 5),
  (5, mo_callV 68 8 2 8),
  (8, mo_i2l 9),
  (9, mo_last 10),
  (10, mo_goto 17),
  (17, mo_const (vI 0) 18),
  (18, mo_iret)]
def md_133 : mMD := ((yL_lock, cL_lock, 5, (some .int)), ([(0, 10, 13, 21)], [(2, 1)]), cd_133)
/-- 134: TrellistagLaw.weight(LTrellistag;I[J)I -/
def cd_134 : List (Nat × mOP) := [(0, mo_aload 2 1),
  (1, mo_const (vI 0) 2),
  (2, mo_aload 0 3),
  (3, mo_iload 1 4),
  (4, mo_callV 69 8 1 7),
  (7, mo_i2l 8),
  (8, mo_last 9),
  (9, mo_goto 18),
  (18, mo_const (vI 0) 19),
  (19, mo_iret)]
def md_134 : mMD := ((yL_weight, cL_weight, 4, (some .int)), ([(0, 9, 12, 21), (0, 9, 15, 15)], [(2, 1), (1, 2)]), cd_134)
/-- 135: TrellistagLaw.step(LTrellistag;II[J)I -/
def cd_135 : List (Nat × mOP) := [(0, mo_aload 3 1),
  (1, mo_const (vI 0) 2),
  (2, mo_aload 0 3),
  (3, mo_iload 1 4),
  (4, mo_iload 2 5),
  (5, mo_callV 70 8 2 8),
  (8, mo_i2l 9),
  (9, mo_last 10),
  (10, mo_goto 17),
  (17, mo_const (vI 0) 18),
  (18, mo_iret)]
def md_135 : mMD := ((yL_step, cL_step, 5, (some .int)), ([(0, 10, 13, 21)], [(2, 1)]), cd_135)
/-- 136: TrellistagLaw.path(LTrellistag;II[J)I -/
def cd_136 : List (Nat × mOP) := [(0, mo_aload 3 1),
  (1, mo_const (vI 0) 2),
  (2, mo_aload 0 3),
  (3, mo_iload 1 4),
  (4, mo_iload 2 5),
  (5, mo_callV 71 8 2 8),
  (8, mo_i2l 9),
  (9, mo_last 10),
  (10, mo_goto 17),
  (17, mo_const (vI 0) 18),
  (18, mo_iret)]
def md_136 : mMD := ((yL_path, cL_path, 5, (some .int)), ([(0, 10, 13, 21)], [(2, 1)]), cd_136)
/-- 137: TrellistagLaw.pathAnew(LTrellistag;II[J)I -/
def cd_137 : List (Nat × mOP) := [(0, mo_aload 3 1),
  (1, mo_const (vI 0) 2),
  (2, mo_aload 0 3),
  (3, mo_iload 1 4),
  (4, mo_iload 2 5),
  (5, mo_callV 72 8 2 8),
  (8, mo_i2l 9),
  (9, mo_last 10),
  (10, mo_goto 17),
  (17, mo_const (vI 0) 18),
  (18, mo_iret)]
def md_137 : mMD := ((yL_pathAnew, cL_pathAnew, 5, (some .int)), ([(0, 10, 13, 21)], [(2, 1)]), cd_137)
/-- 138: TrellistagLaw.product(LTrellistag;I[J)I -/
def cd_138 : List (Nat × mOP) := [(0, mo_aload 2 1),
  (1, mo_const (vI 0) 2),
  (2, mo_aload 0 3),
  (3, mo_iload 1 4),
  (4, mo_callV 73 8 1 7),
  (7, mo_last 8),
  (8, mo_goto 17),
  (17, mo_const (vI 0) 18),
  (18, mo_iret)]
def md_138 : mMD := ((yL_product, cL_product, 4, (some .int)), ([(0, 8, 11, 21), (0, 8, 14, 15)], [(2, 1), (1, 2)]), cd_138)
/-- 139: TrellistagLaw.cost(LTrellistag;[J)I -/
def cd_139 : List (Nat × mOP) := [(0, mo_aload 1 1),
  (1, mo_const (vI 0) 2),
  (2, mo_aload 0 3),
  (3, mo_callV 74 8 0 6),
  (6, mo_i2l 7),
  (7, mo_last 8),
  (8, mo_goto 14),
  (14, mo_const (vI 0) 15),
  (15, mo_iret)]
def md_139 : mMD := ((yL_cost, cL_cost, 3, (some .int)), ([(0, 8, 11, 15)], [(1, 1)]), cd_139)
/-- 140: TrellistagLaw.share(LTrellistag;II[J)I -/
def cd_140 : List (Nat × mOP) := [(0, mo_aload 3 1),
  (1, mo_const (vI 0) 2),
  (2, mo_aload 0 3),
  (3, mo_iload 1 4),
  (4, mo_iload 2 5),
  (5, mo_callV 75 8 2 8),
  (8, mo_i2l 9),
  (9, mo_last 10),
  (10, mo_goto 17),
  (17, mo_const (vI 0) 18),
  (18, mo_iret)]
def md_140 : mMD := ((yL_share, cL_share, 5, (some .int)), ([(0, 10, 13, 21)], [(2, 1)]), cd_140)
/-- 141: TrellistagLaw.shareAnew(LTrellistag;II[J)I -/
def cd_141 : List (Nat × mOP) := [(0, mo_aload 3 1),
  (1, mo_const (vI 0) 2),
  (2, mo_aload 0 3),
  (3, mo_iload 1 4),
  (4, mo_iload 2 5),
  (5, mo_callV 76 8 2 8),
  (8, mo_i2l 9),
  (9, mo_last 10),
  (10, mo_goto 17),
  (17, mo_const (vI 0) 18),
  (18, mo_iret)]
def md_141 : mMD := ((yL_shareAnew, cL_shareAnew, 5, (some .int)), ([(0, 10, 13, 21)], [(2, 1)]), cd_141)
/-- 142: TrellistagLaw.law([I)Z -/
def cd_142 (L : Nat) (xs : Nat → Int32) : List (Nat × mOP) := [(0, mo_new 8 9 3),
  (3, mo_dup 4),
  (4, mo_callV 61 8 0 7),
  (7, mo_astore 1 8),
  (8, mo_new 9 22 11),
  (11, mo_dup 12),
  (12, mo_callV 91 9 0 15),
  (15, mo_astore 2 16),
  (16, mo_const (vI 1) 17),
  (17, mo_newa 2 19),
  (19, mo_astore 3 20),
  (20, mo_const (vI 0) 21),
  (21, mo_istore 4 23),
  (23, mo_iload 4 25),
  (25, mo_aload 0 26),
  (26, mo_slen L 27),
  (27, mo_const (vI 3) 28),
  (28, mo_isub 29),
  (29, mo_icmp 4 1004 32),
  (32, mo_aload 0 33),
  (33, mo_iload 4 35),
  (35, mo_sld L xs 36),
  (36, mo_const (vI 15) 38),
  (38, mo_iand 39),
  (39, mo_tsw [116, 174, 230, 274, 365, 409, 422, 490, 546, 614, 682, 750, 805, 849, 917, 985]),
  (116, mo_aload 1 117),
  (117, mo_aload 0 118),
  (118, mo_iload 4 120),
  (120, mo_const (vI 1) 121),
  (121, mo_iadd 122),
  (122, mo_sld L xs 123),
  (123, mo_i2c 124),
  (124, mo_aload 3 125),
  (125, mo_callS 128 3 128),
  (128, mo_istore 5 130),
  (130, mo_aload 2 131),
  (131, mo_aload 0 132),
  (132, mo_iload 4 134),
  (134, mo_const (vI 1) 135),
  (135, mo_iadd 136),
  (136, mo_sld L xs 137),
  (137, mo_i2c 138),
  (138, mo_callV 97 9 1 141),
  (141, mo_istore 6 143),
  (143, mo_aload 2 144),
  (144, mo_callV 92 9 0 147),
  (147, mo_iload 5 149),
  (149, mo_icmp 0 154 152),
  (152, mo_const (vI 0) 153),
  (153, mo_zret),
  (154, mo_iload 5 156),
  (156, mo_if 1 171 159),
  (159, mo_aload 3 160),
  (160, mo_const (vI 0) 161),
  (161, mo_lald 162),
  (162, mo_iload 6 164),
  (164, mo_i2l 165),
  (165, mo_lcmp 166),
  (166, mo_if 0 171 169),
  (169, mo_const (vI 0) 170),
  (170, mo_zret),
  (171, mo_goto 998),
  (174, mo_aload 1 175),
  (175, mo_aload 0 176),
  (176, mo_iload 4 178),
  (178, mo_const (vI 1) 179),
  (179, mo_iadd 180),
  (180, mo_sld L xs 181),
  (181, mo_aload 3 182),
  (182, mo_callS 129 3 185),
  (185, mo_istore 5 187),
  (187, mo_aload 2 188),
  (188, mo_aload 0 189),
  (189, mo_iload 4 191),
  (191, mo_const (vI 1) 192),
  (192, mo_iadd 193),
  (193, mo_sld L xs 194),
  (194, mo_callV 99 9 1 197),
  (197, mo_istore 6 199),
  (199, mo_aload 2 200),
  (200, mo_callV 92 9 0 203),
  (203, mo_iload 5 205),
  (205, mo_icmp 0 210 208),
  (208, mo_const (vI 0) 209),
  (209, mo_zret),
  (210, mo_iload 5 212),
  (212, mo_if 1 227 215),
  (215, mo_aload 3 216),
  (216, mo_const (vI 0) 217),
  (217, mo_lald 218),
  (218, mo_iload 6 220),
  (220, mo_i2l 221),
  (221, mo_lcmp 222),
  (222, mo_if 0 227 225),
  (225, mo_const (vI 0) 226),
  (226, mo_zret),
  (227, mo_goto 998),
  (230, mo_aload 1 231),
  (231, mo_aload 3 232),
  (232, mo_callS 130 2 235),
  (235, mo_istore 5 237),
  (237, mo_aload 2 238),
  (238, mo_callV 100 9 0 241),
  (241, mo_istore 6 243),
  (243, mo_aload 2 244),
  (244, mo_callV 92 9 0 247),
  (247, mo_iload 5 249),
  (249, mo_icmp 0 254 252),
  (252, mo_const (vI 0) 253),
  (253, mo_zret),
  (254, mo_iload 5 256),
  (256, mo_if 1 271 259),
  (259, mo_aload 3 260),
  (260, mo_const (vI 0) 261),
  (261, mo_lald 262),
  (262, mo_iload 6 264),
  (264, mo_i2l 265),
  (265, mo_lcmp 266),
  (266, mo_if 0 271 269),
  (269, mo_const (vI 0) 270),
  (270, mo_zret),
  (271, mo_goto 998),
  (274, mo_aload 1 275),
  (275, mo_aload 0 276),
  (276, mo_iload 4 278),
  (278, mo_const (vI 1) 279),
  (279, mo_iadd 280),
  (280, mo_sld L xs 281),
  (281, mo_aload 0 282),
  (282, mo_iload 4 284),
  (284, mo_const (vI 2) 285),
  (285, mo_iadd 286),
  (286, mo_sld L xs 287),
  (287, mo_if 0 294 290),
  (290, mo_const (vI 1) 291),
  (291, mo_goto 295),
  (294, mo_const (vI 0) 295),
  (295, mo_aload 3 296),
  (296, mo_callS 131 4 299),
  (299, mo_istore 5 301),
  (301, mo_aload 2 302),
  (302, mo_aload 0 303),
  (303, mo_iload 4 305),
  (305, mo_const (vI 1) 306),
  (306, mo_iadd 307),
  (307, mo_sld L xs 308),
  (308, mo_aload 0 309),
  (309, mo_iload 4 311),
  (311, mo_const (vI 2) 312),
  (312, mo_iadd 313),
  (313, mo_sld L xs 314),
  (314, mo_if 0 321 317),
  (317, mo_const (vI 1) 318),
  (318, mo_goto 322),
  (321, mo_const (vI 0) 322),
  (322, mo_callV 101 9 2 325),
  (325, mo_istore 6 327),
  (327, mo_aload 2 328),
  (328, mo_callV 92 9 0 331),
  (331, mo_iload 5 333),
  (333, mo_icmp 0 338 336),
  (336, mo_const (vI 0) 337),
  (337, mo_zret),
  (338, mo_iload 5 340),
  (340, mo_if 1 362 343),
  (343, mo_aload 3 344),
  (344, mo_const (vI 0) 345),
  (345, mo_lald 346),
  (346, mo_iload 6 348),
  (348, mo_if 0 355 351),
  (351, mo_const (vJ 1) 352),
  (352, mo_goto 356),
  (355, mo_const (vJ 0) 356),
  (356, mo_lcmp 357),
  (357, mo_if 0 362 360),
  (360, mo_const (vI 0) 361),
  (361, mo_zret),
  (362, mo_goto 998),
  (365, mo_aload 1 366),
  (366, mo_aload 3 367),
  (367, mo_callS 132 2 370),
  (370, mo_istore 5 372),
  (372, mo_aload 2 373),
  (373, mo_callV 102 9 0 376),
  (376, mo_istore 6 378),
  (378, mo_aload 2 379),
  (379, mo_callV 92 9 0 382),
  (382, mo_iload 5 384),
  (384, mo_icmp 0 389 387),
  (387, mo_const (vI 0) 388),
  (388, mo_zret),
  (389, mo_iload 5 391),
  (391, mo_if 1 406 394),
  (394, mo_aload 3 395),
  (395, mo_const (vI 0) 396),
  (396, mo_lald 397),
  (397, mo_iload 6 399),
  (399, mo_i2l 400),
  (400, mo_lcmp 401),
  (401, mo_if 0 406 404),
  (404, mo_const (vI 0) 405),
  (405, mo_zret),
  (406, mo_goto 998),
  (409, mo_aload 1 410),
  (410, mo_callV 67 8 0 413),
  (413, mo_aload 2 414),
  (414, mo_callV 103 9 0 417),
  (417, mo_icmp 0 998 420),
  (420, mo_const (vI 0) 421),
  (421, mo_zret),
  (422, mo_aload 1 423),
  (423, mo_aload 0 424),
  (424, mo_iload 4 426),
  (426, mo_const (vI 1) 427),
  (427, mo_iadd 428),
  (428, mo_sld L xs 429),
  (429, mo_aload 0 430),
  (430, mo_iload 4 432),
  (432, mo_const (vI 2) 433),
  (433, mo_iadd 434),
  (434, mo_sld L xs 435),
  (435, mo_aload 3 436),
  (436, mo_callS 133 4 439),
  (439, mo_istore 5 441),
  (441, mo_aload 2 442),
  (442, mo_aload 0 443),
  (443, mo_iload 4 445),
  (445, mo_const (vI 1) 446),
  (446, mo_iadd 447),
  (447, mo_sld L xs 448),
  (448, mo_aload 0 449),
  (449, mo_iload 4 451),
  (451, mo_const (vI 2) 452),
  (452, mo_iadd 453),
  (453, mo_sld L xs 454),
  (454, mo_callV 104 9 2 457),
  (457, mo_istore 6 459),
  (459, mo_aload 2 460),
  (460, mo_callV 92 9 0 463),
  (463, mo_iload 5 465),
  (465, mo_icmp 0 470 468),
  (468, mo_const (vI 0) 469),
  (469, mo_zret),
  (470, mo_iload 5 472),
  (472, mo_if 1 487 475),
  (475, mo_aload 3 476),
  (476, mo_const (vI 0) 477),
  (477, mo_lald 478),
  (478, mo_iload 6 480),
  (480, mo_i2l 481),
  (481, mo_lcmp 482),
  (482, mo_if 0 487 485),
  (485, mo_const (vI 0) 486),
  (486, mo_zret),
  (487, mo_goto 998),
  (490, mo_aload 1 491),
  (491, mo_aload 0 492),
  (492, mo_iload 4 494),
  (494, mo_const (vI 1) 495),
  (495, mo_iadd 496),
  (496, mo_sld L xs 497),
  (497, mo_aload 3 498),
  (498, mo_callS 134 3 501),
  (501, mo_istore 5 503),
  (503, mo_aload 2 504),
  (504, mo_aload 0 505),
  (505, mo_iload 4 507),
  (507, mo_const (vI 1) 508),
  (508, mo_iadd 509),
  (509, mo_sld L xs 510),
  (510, mo_callV 114 9 1 513),
  (513, mo_istore 6 515),
  (515, mo_aload 2 516),
  (516, mo_callV 92 9 0 519),
  (519, mo_iload 5 521),
  (521, mo_icmp 0 526 524),
  (524, mo_const (vI 0) 525),
  (525, mo_zret),
  (526, mo_iload 5 528),
  (528, mo_if 1 543 531),
  (531, mo_aload 3 532),
  (532, mo_const (vI 0) 533),
  (533, mo_lald 534),
  (534, mo_iload 6 536),
  (536, mo_i2l 537),
  (537, mo_lcmp 538),
  (538, mo_if 0 543 541),
  (541, mo_const (vI 0) 542),
  (542, mo_zret),
  (543, mo_goto 998),
  (546, mo_aload 1 547),
  (547, mo_aload 0 548),
  (548, mo_iload 4 550),
  (550, mo_const (vI 1) 551),
  (551, mo_iadd 552),
  (552, mo_sld L xs 553),
  (553, mo_aload 0 554),
  (554, mo_iload 4 556),
  (556, mo_const (vI 2) 557),
  (557, mo_iadd 558),
  (558, mo_sld L xs 559),
  (559, mo_aload 3 560),
  (560, mo_callS 135 4 563),
  (563, mo_istore 5 565),
  (565, mo_aload 2 566),
  (566, mo_aload 0 567),
  (567, mo_iload 4 569),
  (569, mo_const (vI 1) 570),
  (570, mo_iadd 571),
  (571, mo_sld L xs 572),
  (572, mo_aload 0 573),
  (573, mo_iload 4 575),
  (575, mo_const (vI 2) 576),
  (576, mo_iadd 577),
  (577, mo_sld L xs 578),
  (578, mo_callV 115 9 2 581),
  (581, mo_istore 6 583),
  (583, mo_aload 2 584),
  (584, mo_callV 92 9 0 587),
  (587, mo_iload 5 589),
  (589, mo_icmp 0 594 592),
  (592, mo_const (vI 0) 593),
  (593, mo_zret),
  (594, mo_iload 5 596),
  (596, mo_if 1 611 599),
  (599, mo_aload 3 600),
  (600, mo_const (vI 0) 601),
  (601, mo_lald 602),
  (602, mo_iload 6 604),
  (604, mo_i2l 605),
  (605, mo_lcmp 606),
  (606, mo_if 0 611 609),
  (609, mo_const (vI 0) 610),
  (610, mo_zret),
  (611, mo_goto 998),
  (614, mo_aload 1 615),
  (615, mo_aload 0 616),
  (616, mo_iload 4 618),
  (618, mo_const (vI 1) 619),
  (619, mo_iadd 620),
  (620, mo_sld L xs 621),
  (621, mo_aload 0 622),
  (622, mo_iload 4 624),
  (624, mo_const (vI 2) 625),
  (625, mo_iadd 626),
  (626, mo_sld L xs 627),
  (627, mo_aload 3 628),
  (628, mo_callS 136 4 631),
  (631, mo_istore 5 633),
  (633, mo_aload 2 634),
  (634, mo_aload 0 635),
  (635, mo_iload 4 637),
  (637, mo_const (vI 1) 638),
  (638, mo_iadd 639),
  (639, mo_sld L xs 640),
  (640, mo_aload 0 641),
  (641, mo_iload 4 643),
  (643, mo_const (vI 2) 644),
  (644, mo_iadd 645),
  (645, mo_sld L xs 646),
  (646, mo_callV 118 9 2 649),
  (649, mo_istore 6 651),
  (651, mo_aload 2 652),
  (652, mo_callV 92 9 0 655),
  (655, mo_iload 5 657),
  (657, mo_icmp 0 662 660),
  (660, mo_const (vI 0) 661),
  (661, mo_zret),
  (662, mo_iload 5 664),
  (664, mo_if 1 679 667),
  (667, mo_aload 3 668),
  (668, mo_const (vI 0) 669),
  (669, mo_lald 670),
  (670, mo_iload 6 672),
  (672, mo_i2l 673),
  (673, mo_lcmp 674),
  (674, mo_if 0 679 677),
  (677, mo_const (vI 0) 678),
  (678, mo_zret),
  (679, mo_goto 998),
  (682, mo_aload 1 683),
  (683, mo_aload 0 684),
  (684, mo_iload 4 686),
  (686, mo_const (vI 1) 687),
  (687, mo_iadd 688),
  (688, mo_sld L xs 689),
  (689, mo_aload 0 690),
  (690, mo_iload 4 692),
  (692, mo_const (vI 2) 693),
  (693, mo_iadd 694),
  (694, mo_sld L xs 695),
  (695, mo_aload 3 696),
  (696, mo_callS 137 4 699),
  (699, mo_istore 5 701),
  (701, mo_aload 2 702),
  (702, mo_aload 0 703),
  (703, mo_iload 4 705),
  (705, mo_const (vI 1) 706),
  (706, mo_iadd 707),
  (707, mo_sld L xs 708),
  (708, mo_aload 0 709),
  (709, mo_iload 4 711),
  (711, mo_const (vI 2) 712),
  (712, mo_iadd 713),
  (713, mo_sld L xs 714),
  (714, mo_callV 119 9 2 717),
  (717, mo_istore 6 719),
  (719, mo_aload 2 720),
  (720, mo_callV 92 9 0 723),
  (723, mo_iload 5 725),
  (725, mo_icmp 0 730 728),
  (728, mo_const (vI 0) 729),
  (729, mo_zret),
  (730, mo_iload 5 732),
  (732, mo_if 1 747 735),
  (735, mo_aload 3 736),
  (736, mo_const (vI 0) 737),
  (737, mo_lald 738),
  (738, mo_iload 6 740),
  (740, mo_i2l 741),
  (741, mo_lcmp 742),
  (742, mo_if 0 747 745),
  (745, mo_const (vI 0) 746),
  (746, mo_zret),
  (747, mo_goto 998),
  (750, mo_aload 1 751),
  (751, mo_aload 0 752),
  (752, mo_iload 4 754),
  (754, mo_const (vI 1) 755),
  (755, mo_iadd 756),
  (756, mo_sld L xs 757),
  (757, mo_aload 3 758),
  (758, mo_callS 138 3 761),
  (761, mo_istore 5 763),
  (763, mo_aload 2 764),
  (764, mo_aload 0 765),
  (765, mo_iload 4 767),
  (767, mo_const (vI 1) 768),
  (768, mo_iadd 769),
  (769, mo_sld L xs 770),
  (770, mo_callV 121 9 1 773),
  (773, mo_lstore 6 775),
  (775, mo_aload 2 776),
  (776, mo_callV 92 9 0 779),
  (779, mo_iload 5 781),
  (781, mo_icmp 0 786 784),
  (784, mo_const (vI 0) 785),
  (785, mo_zret),
  (786, mo_iload 5 788),
  (788, mo_if 1 802 791),
  (791, mo_aload 3 792),
  (792, mo_const (vI 0) 793),
  (793, mo_lald 794),
  (794, mo_lload 6 796),
  (796, mo_lcmp 797),
  (797, mo_if 0 802 800),
  (800, mo_const (vI 0) 801),
  (801, mo_zret),
  (802, mo_goto 998),
  (805, mo_aload 1 806),
  (806, mo_aload 3 807),
  (807, mo_callS 139 2 810),
  (810, mo_istore 5 812),
  (812, mo_aload 2 813),
  (813, mo_callV 122 9 0 816),
  (816, mo_istore 6 818),
  (818, mo_aload 2 819),
  (819, mo_callV 92 9 0 822),
  (822, mo_iload 5 824),
  (824, mo_icmp 0 829 827),
  (827, mo_const (vI 0) 828),
  (828, mo_zret),
  (829, mo_iload 5 831),
  (831, mo_if 1 846 834),
  (834, mo_aload 3 835),
  (835, mo_const (vI 0) 836),
  (836, mo_lald 837),
  (837, mo_iload 6 839),
  (839, mo_i2l 840),
  (840, mo_lcmp 841),
  (841, mo_if 0 846 844),
  (844, mo_const (vI 0) 845),
  (845, mo_zret),
  (846, mo_goto 998),
  (849, mo_aload 1 850),
  (850, mo_aload 0 851),
  (851, mo_iload 4 853),
  (853, mo_const (vI 1) 854),
  (854, mo_iadd 855),
  (855, mo_sld L xs 856),
  (856, mo_aload 0 857),
  (857, mo_iload 4 859),
  (859, mo_const (vI 2) 860),
  (860, mo_iadd 861),
  (861, mo_sld L xs 862),
  (862, mo_aload 3 863),
  (863, mo_callS 140 4 866),
  (866, mo_istore 5 868),
  (868, mo_aload 2 869),
  (869, mo_aload 0 870),
  (870, mo_iload 4 872),
  (872, mo_const (vI 1) 873),
  (873, mo_iadd 874),
  (874, mo_sld L xs 875),
  (875, mo_aload 0 876),
  (876, mo_iload 4 878),
  (878, mo_const (vI 2) 879),
  (879, mo_iadd 880),
  (880, mo_sld L xs 881),
  (881, mo_callV 124 9 2 884),
  (884, mo_istore 6 886),
  (886, mo_aload 2 887),
  (887, mo_callV 92 9 0 890),
  (890, mo_iload 5 892),
  (892, mo_icmp 0 897 895),
  (895, mo_const (vI 0) 896),
  (896, mo_zret),
  (897, mo_iload 5 899),
  (899, mo_if 1 914 902),
  (902, mo_aload 3 903),
  (903, mo_const (vI 0) 904),
  (904, mo_lald 905),
  (905, mo_iload 6 907),
  (907, mo_i2l 908),
  (908, mo_lcmp 909),
  (909, mo_if 0 914 912),
  (912, mo_const (vI 0) 913),
  (913, mo_zret),
  (914, mo_goto 998),
  (917, mo_aload 1 918),
  (918, mo_aload 0 919),
  (919, mo_iload 4 921),
  (921, mo_const (vI 1) 922),
  (922, mo_iadd 923),
  (923, mo_sld L xs 924),
  (924, mo_aload 0 925),
  (925, mo_iload 4 927),
  (927, mo_const (vI 2) 928),
  (928, mo_iadd 929),
  (929, mo_sld L xs 930),
  (930, mo_aload 3 931),
  (931, mo_callS 141 4 934),
  (934, mo_istore 5 936),
  (936, mo_aload 2 937),
  (937, mo_aload 0 938),
  (938, mo_iload 4 940),
  (940, mo_const (vI 1) 941),
  (941, mo_iadd 942),
  (942, mo_sld L xs 943),
  (943, mo_aload 0 944),
  (944, mo_iload 4 946),
  (946, mo_const (vI 2) 947),
  (947, mo_iadd 948),
  (948, mo_sld L xs 949),
  (949, mo_callV 125 9 2 952),
  (952, mo_istore 6 954),
  (954, mo_aload 2 955),
  (955, mo_callV 92 9 0 958),
  (958, mo_iload 5 960),
  (960, mo_icmp 0 965 963),
  (963, mo_const (vI 0) 964),
  (964, mo_zret),
  (965, mo_iload 5 967),
  (967, mo_if 1 982 970),
  (970, mo_aload 3 971),
  (971, mo_const (vI 0) 972),
  (972, mo_lald 973),
  (973, mo_iload 6 975),
  (975, mo_i2l 976),
  (976, mo_lcmp 977),
  (977, mo_if 0 982 980),
  (980, mo_const (vI 0) 981),
  (981, mo_zret),
  (982, mo_goto 998),
  (985, mo_aload 1 986),
  (986, mo_callV 77 8 0 989),
  (989, mo_aload 2 990),
  (990, mo_callV 126 9 0 993),
  (993, mo_icmp 0 998 996),
  (996, mo_const (vI 0) 997),
  (997, mo_zret),
  (998, mo_iinc 4 3 1001),
  (1001, mo_goto 23),
  (1004, mo_const (vI 1) 1005),
  (1005, mo_zret)]
def md_142 (L : Nat) (xs : Nat → Int32) : mMD := ((x, code, 8, ret), ([], []), cd_142 L xs)
def mds (L : Nat) (xs : Nat → Int32) : List mMD := [md_0, md_1, md_2, md_3, md_4, md_5, md_6, md_7, md_8, md_9, md_10, md_11, md_12, md_13, md_14, md_15, md_16, md_17, md_18, md_19, md_20, md_21, md_22, md_23, md_24, md_25, md_26, md_27, md_28, md_29, md_30, md_31, md_32, md_33, md_34, md_35, md_36, md_37, md_38, md_39, md_40, md_41, md_42, md_43, md_44, md_45, md_46, md_47, md_48, md_49, md_50, md_51, md_52, md_53, md_54, md_55, md_56, md_57, md_58, md_59, md_60, md_61, md_62, md_63, md_64, md_65, md_66, md_67, md_68, md_69, md_70, md_71, md_72, md_73, md_74, md_75, md_76, md_77, md_78, md_79, md_80, md_81, md_82, md_83, md_84, md_85, md_86, md_87, md_88, md_89, md_90, md_91, md_92, md_93, md_94, md_95, md_96, md_97, md_98, md_99, md_100, md_101, md_102, md_103, md_104, md_105, md_106, md_107, md_108, md_109, md_110, md_111, md_112, md_113, md_114, md_115, md_116, md_117, md_118, md_119, md_120, md_121, md_122, md_123, md_124, md_125, md_126, md_127, md_128, md_129, md_130, md_131, md_132, md_133, md_134, md_135, md_136, md_137, md_138, md_139, md_140, md_141, md_142 L xs]
def md_no : mMD := ((⟨"java/lang/Object", "none", "()V"⟩, .empty, 0, none), ([], []), [])
def PP (L : Nat) (xs : Nat → Int32) (j : Nat) : mMD := (mds L xs).getD j md_no
end
