/-! ===== weights of words and steps: class and model alike ===== -/
def FL (C : List Tx) : List (Int × Nat) := C.flatMap (fun x => if x.2 then x.1 else [])
theorem oS_app (f : Int × Nat → Int) : ∀ l l' : List (Int × Nat), oS f (l ++ l') = oS f l + oS f l'
  | [], l' => (Int.zero_add _).symm
  | x :: l, l' => by show f x + oS f (l ++ l') = f x + oS f l + oS f l'; rw [oS_app f l l']; omega
theorem sC_FL (f : Int × Nat → Int) : ∀ C : List Tx, sC (oS f) C = oS f (FL C)
  | [] => rfl
  | x :: C => by
    show (if x.2 then oS f x.1 else 0) + sC (oS f) C = oS f (FL (x :: C))
    rw [sC_FL f C, show FL (x :: C) = (if x.2 then x.1 else []) ++ FL C from rfl, oS_app]
    split <;> rfl
theorem foW_FL (y : Int) : ∀ (C : List Tx) (s : Int × (Nat → Int)), C.foldl (cntC y) s = (FL C).foldl (cnt y) s
  | [], s => rfl
  | x :: C, s => by
    rw [List.foldl_cons, foW_FL y C, show FL (x :: C) = (if x.2 then x.1 else []) ++ FL C from rfl, List.foldl_append]
    unfold cntC
    split <;> rfl
theorem oS_congr {f g : Int × Nat → Int} : ∀ l : List (Int × Nat), (∀ x, x ∈ l → f x = g x) → oS f l = oS g l
  | [], _ => rfl
  | x :: l, h => by show f x + oS f l = g x + oS g l; rw [h x List.mem_cons_self, oS_congr l (fun z hz => h z (List.mem_cons_of_mem _ hz))]
theorem oS_zero {f : Int × Nat → Int} : ∀ l : List (Int × Nat), (∀ x, x ∈ l → f x = 0) → oS f l = 0
  | [], _ => rfl
  | x :: l, h => by show f x + oS f l = 0; rw [h x List.mem_cons_self, oS_zero l (fun z hz => h z (List.mem_cons_of_mem _ hz))]; rfl
theorem oS_ex {f : Int × Nat → Int} : ∀ l : List (Int × Nat), 0 < oS f l → ∃ x, x ∈ l ∧ f x ≠ 0
  | [], h => absurd h (by show ¬ (0 : Int) < 0; decide)
  | x :: l, h => by
    by_cases c : f x = 0
    · have h : 0 < f x + oS f l := h
      obtain ⟨z, hz, hz2⟩ := oS_ex (f := f) l (by omega)
      exact ⟨z, List.mem_cons_of_mem _ hz, hz2⟩
    · exact ⟨x, List.mem_cons_self, c⟩
def iA (y j : Int) (x : Int × Nat) : Int := if likeF x.1 y = j then 1 else 0
def iT (y j : Int) (k : Nat) (x : Int × Nat) : Int := if likeF x.1 y = j ∧ x.2 = k then 1 else 0
def Inv (y : Int) (P : List (Int × Nat)) (s : Int × (Nat → Int)) : Prop := (0 ≤ s.1 ∧ s.1 ≤ 4) ∧ (∀ x, x ∈ P → likeF x.1 y ≤ s.1) ∧ (s.1 = 0 ∨ 0 < oS (iA y s.1) P) ∧ ∀ k, s.2 k = oS (iT y s.1 k) P
theorem iA_bd (y j : Int) (x : Int × Nat) : 0 ≤ iA y j x ∧ iA y j x ≤ 1 := by unfold iA; split <;> omega
theorem Inv_step {y : Int} {P : List (Int × Nat)} {s : Int × (Nat → Int)} (h : Inv y P s) (x : Int × Nat) : Inv y (P ++ [x]) (cnt y s x) := by
  obtain ⟨h0, h1, h2, h3⟩ := h
  have hb := likeF_bd x.1 y
  have one : ∀ f : Int × Nat → Int, oS f (P ++ [x]) = oS f P + f x := fun f => by
    rw [oS_app]; show oS f P + (f x + 0) = _; rw [Int.add_zero]
  unfold cnt
  by_cases c1 : s.1 < likeF x.1 y
  · rw [if_pos c1]
    refine ⟨hb, fun z hz => ?_, Or.inr ?_, fun k => ?_⟩
    · rcases List.mem_append.mp hz with hz | hz
      · have := h1 z hz; show likeF z.1 y ≤ likeF x.1 y; omega
      · rw [List.mem_singleton.mp hz]; exact Int.le_refl _
    · show 0 < oS (iA y (likeF x.1 y)) (P ++ [x])
      rw [one]
      have := (oS_bd (iA y (likeF x.1 y)) (iA_bd y _) P).1
      have e : iA y (likeF x.1 y) x = 1 := if_pos rfl
      omega
    · show (if k = x.2 then (1 : Int) else 0) = oS (iT y (likeF x.1 y) k) (P ++ [x])
      rw [one, oS_zero P (fun z hz => by
        have := h1 z hz
        unfold iT; rw [if_neg (fun hh => by omega)])]
      unfold iT
      by_cases c2 : k = x.2
      · rw [if_pos c2, if_pos ⟨rfl, c2.symm⟩]; rfl
      · rw [if_neg c2, if_neg (fun hh => c2 hh.2.symm)]; rfl
  · rw [if_neg c1]
    by_cases c2 : likeF x.1 y = s.1
    · rw [if_pos c2]
      refine ⟨h0, fun z hz => ?_, ?_, fun k => ?_⟩
      · rcases List.mem_append.mp hz with hz | hz
        · exact h1 z hz
        · rw [List.mem_singleton.mp hz]; show likeF x.1 y ≤ s.1; omega
      · rcases h2 with h2 | h2
        · exact Or.inl h2
        · refine Or.inr ?_
          show 0 < oS (iA y s.1) (P ++ [x])
          rw [one]; have := (iA_bd y s.1 x).1; omega
      · show (if k = x.2 then s.2 k + 1 else s.2 k) = oS (iT y s.1 k) (P ++ [x])
        rw [one, ← h3 k]
        unfold iT
        by_cases c3 : k = x.2
        · rw [if_pos c3, if_pos ⟨c2, c3.symm⟩]
        · rw [if_neg c3, if_neg (fun hh => c3 hh.2.symm), Int.add_zero]
    · rw [if_neg c2]
      refine ⟨h0, fun z hz => ?_, ?_, fun k => ?_⟩
      · rcases List.mem_append.mp hz with hz | hz
        · exact h1 z hz
        · rw [List.mem_singleton.mp hz]; omega
      · rcases h2 with h2 | h2
        · exact Or.inl h2
        · refine Or.inr ?_
          rw [one]; have := (iA_bd y s.1 x).1; omega
      · rw [one, h3 k]
        unfold iT
        rw [if_neg (fun hh => c2 hh.1), Int.add_zero]
theorem Inv_all {y : Int} : ∀ (l P : List (Int × Nat)) (s : Int × (Nat → Int)), Inv y P s → Inv y (P ++ l) (l.foldl (cnt y) s)
  | [], P, s, h => by rw [List.append_nil]; exact h
  | x :: l, P, s, h => by
    have := Inv_all l (P ++ [x]) (cnt y s x) (Inv_step h x)
    rw [List.foldl_cons, show P ++ x :: l = P ++ [x] ++ l by simp]; exact this
theorem foW_inv (C : List Tx) (y : Int) : Inv y (FL C) (foW C y) := by
  have h := Inv_all (y := y) (FL C) [] (0, fun _ => 0) ⟨⟨Int.le_refl 0, by decide⟩, fun x hx => absurd hx List.not_mem_nil, Or.inl rfl, fun _ => rfl⟩
  unfold foW; rw [foW_FL]; exact h
theorem wF_am (fa x : Int) : wF fa x = am9 (fa * x + 1) := by unfold wF am9; split <;> split <;> omega
theorem FL_mem {C : List Tx} {z : Int × Nat} (h : z ∈ FL C) : ∃ x, x ∈ C ∧ z ∈ x.1 := by
  obtain ⟨x, hx, hz⟩ := List.mem_flatMap.mp h
  refine ⟨x, hx, ?_⟩
  cases h2 : x.2 with
  | true => rw [h2] at hz; exact hz
  | false => rw [h2] at hz; exact absurd hz List.not_mem_nil
/-- the texts' words are words -/
def WC (C : List Tx) : Prop := ∀ x, x ∈ C → ∀ z, z ∈ x.1 → VWd z.1 ∧ z.2 < 5
theorem weight_eq {C : List Tx} (hC : WC C) {y : Int} (hy : VWd y) {g : Nat} : wfF C (cv y) (g : Int) = wF (facF (foW C y).1) ((foW C y).2 g) := by
  obtain ⟨hM, hle, hex, hcn⟩ := foW_inv C y
  have hv : ∀ x, x ∈ FL C → VWd x.1 := fun x hx => by
    obtain ⟨z, h1, h2⟩ := FL_mem hx; exact (hC z h1 x h2).1
  generalize foW C y = R at *
  obtain ⟨M, r⟩ := R
  dsimp only at hM hle hex hcn ⊢
  have hof : ∀ v y' g', oft C v y' g' = oS (oI v y' g') (FL C) := fun v y' g' => sC_FL _ C
  -- a level: what the model counts by a divisor is what is alike at least so far
  have lev : ∀ (b j : Int), (∀ x, x ∈ FL C → ((cv x.1).tmod b = (cv y).tmod b ↔ j ≤ likeF x.1 y)) → j ≤ M → M ≤ j → 0 < j → 0 < oft C (cv y) b (-1) ∧ oft C (cv y) b (g : Int) = r g := by
    intro b j h h1 h2 h3
    have e : M = j := by omega
    subst e
    refine ⟨?_, ?_⟩
    · have h4 : 0 < oS (iA y M) (FL C) := by
        rcases hex with h5 | h5
        · omega
        · exact h5
      rw [hof, oS_congr (g := iA y M) _ (fun x hx => ?_)]
      · exact h4
      · have h5 := h x hx
        have h6 := hle x hx
        unfold oI iA
        by_cases c : likeF x.1 y = M
        · rw [if_pos c, if_pos ⟨h5.mpr (by omega), Or.inl rfl⟩]
        · rw [if_neg c, if_neg (fun hh => c (by have := h5.mp hh.1; omega))]
    · rw [hof, hcn g]
      refine oS_congr _ (fun x hx => ?_)
      have h5 := h x hx
      have h6 := hle x hx
      unfold oI iT
      by_cases c : likeF x.1 y = M ∧ x.2 = g
      · rw [if_pos c, if_pos ⟨h5.mpr (by omega), Or.inr (by rw [c.2])⟩]
      · rw [if_neg c, if_neg (fun hh => c ⟨by have := h5.mp hh.1; omega, by rcases hh.2 with h7 | h7 <;> omega⟩)]
  have none : ∀ (b j : Int), (∀ x, x ∈ FL C → ((cv x.1).tmod b = (cv y).tmod b ↔ j ≤ likeF x.1 y)) → M < j → ¬ 0 < oft C (cv y) b (-1) := by
    intro b j h h1 h2
    rw [hof] at h2
    obtain ⟨x, hx, hne⟩ := oS_ex _ h2
    unfold oI at hne
    by_cases c : (cv x.1).tmod b = (cv y).tmod b ∧ ((-1 : Int) = -1 ∨ (x.2 : Int) = -1)
    · have := (h x hx).mp c.1
      have := hle x hx
      omega
    · rw [if_neg c] at hne; exact hne rfl
  have m4 : ∀ x, x ∈ FL C → ((cv x.1).tmod 387420489 = (cv y).tmod 387420489 ↔ 4 ≤ likeF x.1 y) := fun x hx => by
    have h := lk4 (hv x hx) hy
    have hb := likeF_bd x.1 y
    rw [h]; omega
  have m1 : ∀ x, x ∈ FL C → ((cv x.1).tmod 27 = (cv y).tmod 27 ↔ 1 ≤ likeF x.1 y) := fun x hx => lk1 (hv x hx) hy
  have wit : M = 0 ∨ ∃ x, x ∈ FL C ∧ likeF x.1 y = M := by
    rcases hex with h | h
    · exact Or.inl h
    · obtain ⟨x, hx, hne⟩ := oS_ex _ h
      refine Or.inr ⟨x, hx, ?_⟩
      unfold iA at hne
      by_cases c : likeF x.1 y = M
      · exact c
      · rw [if_neg c] at hne; exact absurd rfl hne
  have hwn : 27 ≤ cv y * 27 ∧ (M = 3 → 19683 ≤ cv y * 27) ∧ (M = 2 → 729 ≤ cv y * 27) := by
    have h27 : 27 ≤ cv y * 27 := (lkn hy hy).2.2
    refine ⟨h27, fun e => ?_, fun e => ?_⟩
    · rcases wit with h | ⟨x, hx, hl⟩
      · omega
      · exact (lkn (hv x hx) hy).1 (by omega)
    · rcases wit with h | ⟨x, hx, hl⟩
      · omega
      · exact (lkn (hv x hx) hy).2.1 (by omega)
  rw [wF_am]
  unfold wfF
  by_cases c4 : M = 4
  · have h := lev 387420489 4 m4 (by omega) (by omega) (by decide)
    rw [if_pos h.1, h.2, c4]; rfl
  · rw [if_neg (none 387420489 4 m4 (by omega))]
    by_cases c3 : M = 3
    · have h3 := hwn.2.1 c3
      have h := lev 19683 3 (fun x hx => lk3 (hv x hx) hy h3) (by omega) (by omega) (by decide)
      rw [if_pos ⟨h3, h.1⟩, h.2, c3]; rfl
    · rw [if_neg (fun hh => none 19683 3 (fun x hx => lk3 (hv x hx) hy hh.1) (by omega) hh.2)]
      by_cases c2 : M = 2
      · have h3 := hwn.2.2 c2
        have h := lev 729 2 (fun x hx => lk2 (hv x hx) hy h3) (by omega) (by omega) (by decide)
        rw [if_pos ⟨h3, h.1⟩, h.2, c2]; rfl
      · rw [if_neg (fun hh => none 729 2 (fun x hx => lk2 (hv x hx) hy hh.1) (by omega) hh.2)]
        by_cases c1 : M = 1
        · have h := lev 27 1 m1 (by omega) (by omega) (by decide)
          rw [if_pos ⟨hwn.1, h.1⟩, h.2, c1]; rfl
        · rw [if_neg (fun hh => none 27 1 m1 (by omega) hh.2)]
          have c0 : M = 0 := by omega
          rw [c0]
          show 1 = am9 (0 * r g + 1)
          rw [Int.zero_mul]; rfl
-- steps
theorem sC_congr {P Q : List (Int × Nat) → Int} : ∀ C : List Tx, (∀ x, x ∈ C → P x.1 = Q x.1) → sC P C = sC Q C
  | [], _ => rfl
  | x :: C, h => by
    show (if x.2 then P x.1 else 0) + sC P C = (if x.2 then Q x.1 else 0) + sC Q C
    rw [h x List.mem_cons_self, sC_congr C (fun z hz => h z (List.mem_cons_of_mem _ hz))]
theorem am_mn (x : Int) : am7 (1 + x) = mn7 x := by unfold am7 mn7; split <;> split <;> omega
theorem stF_none (h : Nat) (l : List (Int × Nat)) : ∀ c j, 0 < j → stF (-1) (h : Int) l c j = 0
  | 0, _, _ => rfl
  | c + 1, j, hj => by
    show sI (-1) (h : Int) l j + stF (-1) (h : Int) l c (j + 1) = 0
    rw [stF_none h l c (j + 1) (by omega)]
    unfold sI; rw [if_neg (by omega)]; rfl
theorem stF_pr (f h : Nat) (l : List (Int × Nat)) : ∀ c j, 0 < j → stF (f : Int) (h : Int) l c j = prF l f h c j
  | 0, _, _ => rfl
  | c + 1, j, hj => by
    show sI (f : Int) (h : Int) l j + stF (f : Int) (h : Int) l c (j + 1) = (if f = (gt l (j - 1)).2 ∧ h = (gt l j).2 then 1 else 0) + prF l f h c (j + 1)
    rw [stF_pr f h l c (j + 1) (by omega)]
    unfold sI
    by_cases c : f = (gt l (j - 1)).2 ∧ h = (gt l j).2
    · rw [if_pos c, if_pos (by omega)]
    · rw [if_neg c, if_neg (by omega)]
theorem stL_first (h : Nat) {l : List (Int × Nat)} (hl : 0 < l.length) : stL (-1) (h : Int) l = fsN h l := by
  unfold stL fsN
  obtain ⟨c, hc⟩ : ∃ c, l.length = c + 1 := ⟨l.length - 1, by omega⟩
  rw [hc]
  show sI (-1) (h : Int) l 0 + stF (-1) (h : Int) l c 1 = _
  rw [stF_none h l c 1 (by omega), Int.add_zero]
  unfold sI
  by_cases c0 : h = (gt l 0).2
  · rw [if_pos c0, if_pos (by omega)]
  · rw [if_neg c0, if_neg (by omega)]
theorem stL_pair (f h : Nat) {l : List (Int × Nat)} (hl : 0 < l.length) : stL (f : Int) (h : Int) l = prN f h l := by
  unfold stL prN
  obtain ⟨c, hc⟩ : ∃ c, l.length = c + 1 := ⟨l.length - 1, by omega⟩
  rw [hc]
  show sI (f : Int) (h : Int) l 0 + stF (f : Int) (h : Int) l c 1 = _
  rw [stF_pr f h l c 1 (by omega), show c + 1 - 1 = c by omega]
  unfold sI; rw [if_neg (by omega), Int.zero_add]
theorem wo_first {C : List Tx} (hC : VC C) (h : Nat) : woF C (-1) (h : Int) = mn7 (sC (fsN h) C) := by
  unfold woF; rw [am_mn, sC_congr C (fun x hx => stL_first h (hC.2 x hx).1)]
theorem wo_pair {C : List Tx} (hC : VC C) (f h : Nat) : woF C (f : Int) (h : Int) = mn7 (sC (prN f h) C) := by
  unfold woF; rw [am_mn, sC_congr C (fun x hx => stL_pair f h (hC.2 x hx).1)]
