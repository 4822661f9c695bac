/-! ===== a step of the small machine is a step of the machine ===== -/
def lsR (B b nL : Nat) (lsl : mLS) (ls : Array Slot) : Prop := ∃ lv : List (Nat × Value), lv_has ls nL lv ∧ lsl.length = nL ∧ ∀ (i : Nat) (v : mMV), lsl[i]? = some (some v) → (i, eV B b v) ∈ lv
theorem lsR.at {B b nL : Nat} {lsl : mLS} {ls : Array Slot} (h : lsR B b nL lsl ls) {i : Nat} {v : mMV} (hv : lsl[i]? = some (some v)) : ls[i]? = some (.val (eV B b v)) := by
  obtain ⟨lv, h1, -, h2⟩ := h
  exact h1.2.2 _ (h2 i v hv)
theorem kp_at {k j : Nat} {ls : mLS} {v : mMV} (h : (kp k ls)[j]? = some (some v)) : ls[j]? = some (some v) ∧ ¬ (j + 1 = k ∧ mcat v = 2) := by
  unfold kp at h
  cases k with
  | zero => exact ⟨h, by omega⟩
  | succ k =>
    dsimp only at h
    split at h
    · rename_i x hx
      by_cases q : k = j
      · subst q
        rw [List.getElem?_set_self' , hx] at h
        simp at h
      · rw [List.getElem?_set_ne q] at h
        exact ⟨h, by omega⟩
    · rename_i hx
      refine ⟨h, fun q => ?_⟩
      obtain ⟨q1, q2⟩ := q
      have e : j = k := by omega
      subst e
      match v, q2 with
      | .inr (.inl x), _ => exact hx x h
      | .inl x, q2 => simp [mcat] at q2
      | .inr (.inr x), q2 => simp [mcat] at q2
theorem kp_len (k : Nat) (ls : mLS) : (kp k ls).length = ls.length := by
  unfold kp
  cases k with
  | zero => rfl
  | succ k => dsimp only; split <;> simp
theorem cat_eV (B b : Nat) (v : mMV) : (eV B b v).category = mcat v := by
  match v with
  | .inl x => rfl
  | .inr (.inl x) => rfl
  | .inr (.inr none) => rfl
  | .inr (.inr (some k)) => rfl
theorem lsR_st1 {B b nL k : Nat} {lsl : mLS} {v : mMV} {lv : List (Nat × Value)} {ls' : Array Slot} (hlen : lsl.length = nL) (hk : k < nL) (hm : ∀ (i : Nat) (w : mMV), lsl[i]? = some (some w) → (i, eV B b w) ∈ lv)
    (h : lv_has ls' nL ((k, eV B b v) :: lv.filter (fun q => !(q.1 == k) && !(q.1 + 1 == k && q.2.category == 2)))) : lsR B b nL (st1 k v lsl) ls' := by
  refine ⟨_, h, by simp [st1, kp_len, hlen], fun i w hw => ?_⟩
  unfold st1 at hw
  by_cases q : k = i
  · subst q
    rw [List.getElem?_set_self (by rw [kp_len, hlen]; exact hk)] at hw
    cases hw
    exact List.mem_cons_self
  · rw [List.getElem?_set_ne q] at hw
    obtain ⟨h1, h2⟩ := kp_at hw
    refine List.mem_cons_of_mem _ (List.mem_filter.mpr ⟨hm i w h1, ?_⟩)
    have q' : ¬ i = k := fun z => q z.symm
    simp only [Bool.and_eq_true, Bool.not_eq_true', beq_eq_false_iff_ne, Bool.and_eq_false_iff]
    refine ⟨q', ?_⟩
    by_cases z : i + 1 = k
    · right
      intro z2
      have z3 : (eV B b w).category = 2 := z2
      rw [cat_eV] at z3
      exact h2 ⟨z, z3⟩
    · left; exact z
theorem lsR_st2 {B b nL k : Nat} {lsl : mLS} {v : mMV} {lv : List (Nat × Value)} {ls' : Array Slot} (hlen : lsl.length = nL) (hk : k + 1 < nL) (hm : ∀ (i : Nat) (w : mMV), lsl[i]? = some (some w) → (i, eV B b w) ∈ lv)
    (h : lv_has ls' nL ((k, eV B b v) :: lv.filter (fun q => !(q.1 == k) && (!(q.1 == k + 1) && !(q.1 + 1 == k && q.2.category == 2))))) : lsR B b nL (st2 k v lsl) ls' := by
  refine ⟨_, h, by simp [st2, kp_len, hlen], fun i w hw => ?_⟩
  unfold st2 at hw
  by_cases q1 : k + 1 = i
  · subst q1
    rw [List.getElem?_set_self (by simp [kp_len, hlen]; exact hk)] at hw
    cases hw
  · rw [List.getElem?_set_ne q1] at hw
    by_cases q : k = i
    · subst q
      rw [List.getElem?_set_self (by rw [kp_len, hlen]; omega)] at hw
      cases hw
      exact List.mem_cons_self
    · rw [List.getElem?_set_ne q] at hw
      obtain ⟨h1, h2⟩ := kp_at hw
      refine List.mem_cons_of_mem _ (List.mem_filter.mpr ⟨hm i w h1, ?_⟩)
      have q' : ¬ i = k := fun z => q z.symm
      have q1' : ¬ i = k + 1 := fun z => q1 z.symm
      simp only [Bool.and_eq_true, Bool.not_eq_true', beq_eq_false_iff_ne, Bool.and_eq_false_iff]
      refine ⟨q', q1', ?_⟩
      by_cases z : i + 1 = k
      · right
        intro z2
        have z3 : (eV B b w).category = 2 := z2
        rw [cat_eV] at z3
        exact h2 ⟨z, z3⟩
      · left; exact z
def wC (md : mMD) : Cond := match dH md with
  | [] => .code (dY md) (dB md) (dL md) (dT md)
  | h :: hs => .codeWith (dY md) (dB md) (dL md) (dT md) (h :: hs)
def PcM (B b L : Nat) (xs : Nat → Int32) (D : va_G) (aC : Nat → ClassId) (as : List mMV) (h : mMH) : Array Value → State → Prop := va_Pc (as.map (eV B b)) (fun U => HR B b D aC h U.heap ∧ va_K D vwCl (tysL aC) U ∧ Gl B b L xs U U.heap)
def QcM (B b : Nat) (D : va_G) (aC : Nat → ClassId) (v : Option mMV) (h1 : mMH) : Array Value → State → Outcome → State → Prop := fun _ st oc t => oc = .returned (v.map (eV B b)) ∧ HR B b D aC h1 t.heap ∧ va_F (fun q => B < q) st t
def XCM (B b : Nat) (D : va_G) (aC : Nat → ClassId) (E : Nat) (h1 : mMH) : String → State → State → Prop := fun e9 st t => e9 = en E ∧ HR B b D aC h1 t.heap ∧ va_F (fun q => B < q) st t
/-- a callee's contract: as the small machine has it -/
def CM (B b L : Nat) (xs : Nat → Int32) (D : va_G) (aC : Nat → ClassId) (l : Launch) (md : mMD) (d : Nat) (as : List mMV) (h : mMH) (o : Option mMV ⊕ Nat) (h1 : mMH) : Prop := match o with
  | .inl v => vx_Met l (dY md) (wC md :: w_all) { frames := d + 1, cells := mC h1 - mC h, slots := mSl h1 - mSl h, locals := 40 + 39 * d } (PcM B b L xs D aC as h) (QcM B b D aC v h1) (fun _ _ _ => False) (mC h1 - mC h) (mSl h1 - mSl h) (fun q => B < q)
  | .inr E => vx_Met l (dY md) (wC md :: w_all) { frames := d + 1, cells := mC h1 - mC h, slots := mSl h1 - mSl h, locals := 40 + 39 * d } (PcM B b L xs D aC as h) (fun _ _ _ _ => False) (XCM B b D aC E h1) (mC h1 - mC h) (mSl h1 - mSl h) (fun q => B < q)
/-- what stands fast in a method's frame -/
def Cx (B b L : Nat) (xs : Nat → Int32) (D : va_G) (aC : Nat → ClassId) (p : Program) (l : Launch) (R : Room) (s : State) (m : MethodId) (args : Array Value) (meth : Method) (c : Code) (md : mMD) (d : Nat) : Prop :=
  p.tables.exec = Jvm.exec ∧ c.code = dB md ∧ c.maxLocals = dL md ∧ s.vm.findClass (dY md).cls = some m.cls ∧ (∀ w ∈ w_all, w.before args s = true) ∧ meth.locks = false ∧ l.stackTraces = false ∧ va_K D vwCl (tysL aC) s ∧ Gl B b L xs s s.heap ∧ (d + 1 ≤ R.frames ∧ 40 + 39 * d ≤ R.locals) ∧ c.exceptionTable.toList = tableOf (dH md) ∧ meth.name = (dY md).name
def WP (B b : Nat) (D : va_G) (aC : Nat → ClassId) (p : Program) (l : Launch) (e : Env) (R : Room) (s : State) (m : MethodId) (args : Array Value) (below : List Frame) (meth : Method) (c : Code) (md : mMD) (c0 s0 : Nat) (Q : State → Prop) (pc : Nat) (lsl : mLS) (stl : mST) (h : mMH) : Prop :=
  ∀ (H : Heap) (locs : List Loc) (ls : Array Slot) (cells slots : Nat), HR B b D aC h H → va_S (fun q => B < q) s.heap H locs → lsR B b (dL md) lsl ls → c0 + cells = mC h → s0 + slots = mSl h → W p l e R s m args below meth c H locs cells slots Q (F0 m pc ls (stl.map (eV B b)))
def retIg (md : mMD) (v : Option mMV) (ig : Instr) : Prop := (ig = .ireturn ∧ ∃ x, v = some (vI x) ∧ (dT md = some .int ∨ (dT md = some .boolean ∧ (x = 0 ∨ x = 1)))) ∨ (ig = .lreturn ∧ ∃ x, v = some (vJ x) ∧ dT md = some .long) ∨ (ig = .areturn ∧ ∃ (a : Nat) (C : String), v = some (vR (some a)) ∧ dT md = some (.object C)) ∨ (ig = .return_ ∧ v = none ∧ dT md = none)
def WR (B b : Nat) (D : va_G) (aC : Nat → ClassId) (p : Program) (l : Launch) (e : Env) (R : Room) (s : State) (m : MethodId) (args : Array Value) (below : List Frame) (meth : Method) (c : Code) (md : mMD) (c0 s0 : Nat) (Q : State → Prop) (v : Option mMV) (h : mMH) : Prop :=
  ∀ (H : Heap) (locs : List Loc) (ls : Array Slot) (cells slots pc : Nat) (ig : Instr), HR B b D aC h H → va_S (fun q => B < q) s.heap H locs → c0 + cells = mC h → s0 + slots = mSl h → decode (dB md) pc = .ok (ig, 1) → retIg md v ig → W p l e R s m args below meth c H locs cells slots Q (F0 m pc ls ((v.map (eV B b)).toList))
def WX (B b : Nat) (D : va_G) (aC : Nat → ClassId) (p : Program) (l : Launch) (e : Env) (R : Room) (s : State) (m : MethodId) (args : Array Value) (below : List Frame) (meth : Method) (c : Code) (md : mMD) (c0 s0 : Nat) (Q : State → Prop) (E : Nat) (pc : Nat) (lsl : mLS) (h : mMH) : Prop :=
  ∀ (H : Heap) (locs : List Loc) (ls : Array Slot) (cells slots : Nat) (rest : List Value) (q : Addr) (ce : Cell), HR B b D aC h H → va_S (fun q => B < q) s.heap H locs → lsR B b (dL md) lsl ls → c0 + cells = mC h → s0 + slots = mSl h → H[q]? = some ce → ce.vm = .none → s.vm.findClass (en E) = some ce.cls → vx_W p l e R s m args below meth c H locs cells slots Q (F0 m pc ls rest) q
def TQ (B b : Nat) (D : va_G) (aC : Nat → ClassId) (s : State) (args : Array Value) (below : List Frame) (c0 s0 : Nat) (Q : State → Prop) (E : Nat) (h : mMH) : Prop :=
  ∃ (Qc : Array Value → State → Outcome → State → Prop) (XC : String → State → State → Prop) (mc ms : Nat), Q = vx_MQ below Qc XC args s mc ms (fun q => B < q) ∧ (∀ t : State, s.vm.Alike t.vm → HR B b D aC h t.heap → va_F (fun q => B < q) s t → XC (en E) s t) ∧ mC h ≤ c0 + mc ∧ mSl h ≤ s0 + ms
def SOo (B b : Nat) (D : va_G) (aC : Nat → ClassId) (p : Program) (l : Launch) (e : Env) (R : Room) (s : State) (m : MethodId) (args : Array Value) (below : List Frame) (meth : Method) (c : Code) (md : mMD) (c0 s0 : Nat) (Q : State → Prop) (o : Option mMV ⊕ Nat) (pcR : Nat) (lsl : mLS) (rest : mST) (h1 : mMH) (pc : Nat) (stl : mST) (h : mMH) : Prop := match o with
  | .inl v => WP B b D aC p l e R s m args below meth c md c0 s0 Q pcR lsl (v.toList ++ rest) h1 → WP B b D aC p l e R s m args below meth c md c0 s0 Q pc lsl stl h
  | .inr E => WX B b D aC p l e R s m args below meth c md c0 s0 Q E pc lsl h1 → WP B b D aC p l e R s m args below meth c md c0 s0 Q pc lsl stl h
def SOr (P : Nat → mMD) (B b L : Nat) (xs : Nat → Int32) (D : va_G) (aC : Nat → ClassId) (p : Program) (l : Launch) (e : Env) (R : Room) (s : State) (m : MethodId) (args : Array Value) (below : List Frame) (meth : Method) (c : Code) (md : mMD) (d c0 s0 : Nat) (Q : State → Prop) (pc : Nat) (lsl : mLS) (stl : mST) (h : mMH) (r : mRR) : Prop := match r with
  | .inl q => (mC h ≤ mC q.2.2 ∧ mSl h ≤ mSl q.2.2) ∧ (mC q.2.2 ≤ c0 + R.cells → mSl q.2.2 ≤ s0 + R.slots → WP B b D aC p l e R s m args below meth c md c0 s0 Q q.1 q.2.1.1 q.2.1.2 q.2.2 → WP B b D aC p l e R s m args below meth c md c0 s0 Q pc lsl stl h)
  | .inr (.inl q) => q.2 = h ∧ (WR B b D aC p l e R s m args below meth c md c0 s0 Q q.1 h → WP B b D aC p l e R s m args below meth c md c0 s0 Q pc lsl stl h)
  | .inr (.inr (.inl q)) => (mC h ≤ mC q.2 ∧ mSl h ≤ mSl q.2) ∧ (7 ≤ d → mC q.2 ≤ c0 + R.cells → mSl q.2 ≤ s0 + R.slots → TQ B b D aC s args below c0 s0 Q q.1 q.2 → WP B b D aC p l e R s m args below meth c md c0 s0 Q pc lsl stl h)
  | .inr (.inr (.inr q)) => ∀ (d' : Nat) (o : Option mMV ⊕ Nat) (h1 : mMH), d = d' + 1 → mC h ≤ mC h1 → mSl h ≤ mSl h1 → mC h1 ≤ c0 + R.cells → mSl h1 ≤ s0 + R.slots → dL (P q.1) ≤ 20 → CM B b L xs D aC l (P q.1) d' q.2.1 h o h1 →
    SOo B b D aC p l e R s m args below meth c md c0 s0 Q o q.2.2.1 lsl q.2.2.2 h1 pc stl h
def SO (P : Nat → mMD) (B b L : Nat) (xs : Nat → Int32) (D : va_G) (aC : Nat → ClassId) (p : Program) (l : Launch) (e : Env) (R : Room) (s : State) (m : MethodId) (args : Array Value) (below : List Frame) (meth : Method) (c : Code) (md : mMD) (d c0 s0 : Nat) (Q : State → Prop) (pc : Nat) (f : mOP) : Prop :=
  ∀ (lsl : mLS) (stl : mST) (h : mMH) (r : mRR), f lsl stl h = some r → SOr P B b L xs D aC p l e R s m args below meth c md d c0 s0 Q pc lsl stl h r
section SOA
variable {P : Nat → mMD} {B b L : Nat} {xs : Nat → Int32} {D : va_G} {aC : Nat → ClassId} {p : Program} {l : Launch} {e : Env} {R : Room} {s : State} {m : MethodId} {args : Array Value} {below : List Frame} {meth : Method} {c : Code} {md : mMD} {d c0 s0 : Nat} {Q : State → Prop} {pc : Nat}
theorem so_nx {lsl ls' : mLS} {stl st' : mST} {h h' : mMH} {pc' : Nat} (a : mC h ≤ mC h' ∧ mSl h ≤ mSl h') (k : mC h' ≤ c0 + R.cells → mSl h' ≤ s0 + R.slots → WP B b D aC p l e R s m args below meth c md c0 s0 Q pc' ls' st' h' → WP B b D aC p l e R s m args below meth c md c0 s0 Q pc lsl stl h) : SOr P B b L xs D aC p l e R s m args below meth c md d c0 s0 Q pc lsl stl h (.inl (pc', (ls', st'), h')) := ⟨a, k⟩
theorem so_pu {lsl : mLS} {stl st' : mST} {h : mMH} {pc' : Nat} (k : ∀ (H : Heap) (locs : List Loc) (ls : Array Slot) (cells slots : Nat), HR B b D aC h H → va_S (fun q => B < q) s.heap H locs → lsR B b (dL md) lsl ls → W p l e R s m args below meth c H locs cells slots Q (F0 m pc' ls (st'.map (eV B b))) → W p l e R s m args below meth c H locs cells slots Q (F0 m pc ls (stl.map (eV B b)))) :
    SOr P B b L xs D aC p l e R s m args below meth c md d c0 s0 Q pc lsl stl h (.inl (pc', (lsl, st'), h)) := so_nx ⟨Nat.le_refl _, Nat.le_refl _⟩ fun _ _ kk H locs ls cells slots hH hS hl hc hs => k H locs ls cells slots hH hS hl (kk H locs ls cells slots hH hS hl hc hs)
/-- a local is written -/
theorem so_lo {lsl ls1 : mLS} {stl st' : mST} {h : mMH} {pc' : Nat} (k : ∀ (H : Heap) (locs : List Loc) (ls : Array Slot) (cells slots : Nat), lsR B b (dL md) lsl ls → (∀ ls' : Array Slot, lsR B b (dL md) ls1 ls' → W p l e R s m args below meth c H locs cells slots Q (F0 m pc' ls' (st'.map (eV B b)))) → W p l e R s m args below meth c H locs cells slots Q (F0 m pc ls (stl.map (eV B b)))) :
    SOr P B b L xs D aC p l e R s m args below meth c md d c0 s0 Q pc lsl stl h (.inl (pc', (ls1, st'), h)) := so_nx ⟨Nat.le_refl _, Nat.le_refl _⟩ fun _ _ kk H locs ls cells slots hH hS hl hc hs => k H locs ls cells slots hl (fun ls' hl' => kk H locs ls' cells slots hH hS hl' hc hs)
theorem i32 {x : Int} (h : inI x = true) : (Int32.ofInt x).toInt = x := by
  simp only [inI, Bool.and_eq_true, decide_eq_true_eq] at h
  exact Int32.toInt_ofInt_of_le (by omega) (by omega)
theorem i64 {x : Int} (h : inJ x = true) : (Int64.ofInt x).toInt = x := by
  simp only [inJ, Bool.and_eq_true, decide_eq_true_eq] at h
  exact Int64.toInt_ofInt_of_le (by omega) (by omega)
theorem i32_lt {x y : Int} (hx : inI x = true) (hy : inI y = true) : Int32.ofInt x < Int32.ofInt y ↔ x < y := by rw [Int32.lt_iff_toInt_lt, i32 hx, i32 hy]
theorem i32_le {x y : Int} (hx : inI x = true) (hy : inI y = true) : Int32.ofInt x ≤ Int32.ofInt y ↔ x ≤ y := by rw [Int32.le_iff_toInt_le, i32 hx, i32 hy]
theorem i32_eq {x y : Int} (hx : inI x = true) (hy : inI y = true) : Int32.ofInt x = Int32.ofInt y ↔ x = y := by rw [← Int32.toInt_inj, i32 hx, i32 hy]
theorem i64_lt {x y : Int} (hx : inJ x = true) (hy : inJ y = true) : Int64.ofInt x < Int64.ofInt y ↔ x < y := by rw [Int64.lt_iff_toInt_lt, i64 hx, i64 hy]
theorem i64_eq {x y : Int} (hx : inJ x = true) (hy : inJ y = true) : Int64.ofInt x = Int64.ofInt y ↔ x = y := by rw [← Int64.toInt_inj, i64 hx, i64 hy]
theorem inI_0 : inI 0 = true := by decide
end SOA
