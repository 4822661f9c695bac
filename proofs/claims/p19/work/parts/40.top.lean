/-! ===== the ten best: whatever the order of offers, and of the ten best of parts ===== -/
theorem bet_iff {x y : Pr} : bet x y = true ↔ (y.1 < x.1 ∨ (x.1 = y.1 ∧ x.2 < y.2)) := by unfold bet; exact decide_eq_true_iff
theorem bet_not {x y : Pr} : bet x y = false ↔ ¬ (y.1 < x.1 ∨ (x.1 = y.1 ∧ x.2 < y.2)) := by unfold bet; exact decide_eq_false_iff_not
theorem bet_total {x y : Pr} (h : bet x y = false) (h2 : bet y x = false) : x = y := by
  rw [bet_not] at h h2
  obtain ⟨a, b⟩ := x; obtain ⟨c, e⟩ := y
  have h3 : a = c := by simp only at h h2; omega
  have h4 : b = e := by simp only at h h2; omega
  rw [h3, h4]
theorem ins_nil (x : Pr) : ins x [] = [x] := rfl
theorem ins_pos {x y : Pr} (l : List Pr) (h : bet x y = true) : ins x (y :: l) = x :: y :: l := by
  show (if bet x y then x :: y :: l else y :: ins x l) = _; rw [if_pos h]
theorem ins_neg {x y : Pr} (l : List Pr) (h : bet x y = false) : ins x (y :: l) = y :: ins x l := by
  show (if bet x y then x :: y :: l else y :: ins x l) = _; rw [if_neg (by rw [h]; decide)]
theorem ins_comm (x y : Pr) : ∀ l : List Pr, ins x (ins y l) = ins y (ins x l) := by
  have key : ∀ l : List Pr, ins x (y :: l) = ins y (x :: l) → ins x (y :: l) = ins y (x :: l) := fun _ h => h
  have two : ∀ l : List Pr, (∀ z r, l = z :: r → bet x z = true ∧ bet y z = true) → ins x (y :: l) = ins y (x :: l) := by
    intro l hl
    have ex : ins x l = x :: l := by
      cases l with
      | nil => rfl
      | cons z r => exact ins_pos r (hl z r rfl).1
    have ey : ins y l = y :: l := by
      cases l with
      | nil => rfl
      | cons z r => exact ins_pos r (hl z r rfl).2
    cases h : bet x y with
    | true => rw [ins_pos l h, ins_neg l (bet_asymm h), ey]
    | false =>
      rw [ins_neg l h, ex]
      cases h2 : bet y x with
      | true => rw [ins_pos l h2]
      | false => rw [ins_neg l h2, ey, bet_total h h2]
  intro l
  induction l with
  | nil => exact two [] (fun z r h => by cases h)
  | cons z l IH =>
    cases hx : bet x z with
    | true =>
      cases hy : bet y z with
      | true =>
        rw [ins_pos l hx, ins_pos l hy]
        exact two (z :: l) (fun z' r h => by cases h; exact ⟨hx, hy⟩)
      | false =>
        rw [ins_pos l hx, ins_neg l hy, ins_pos _ hx]
        have h : bet y x = false := by
          cases h : bet y x with
          | false => rfl
          | true =>
            rw [bet_iff] at h hx; rw [bet_not] at hy; exfalso; omega
        rw [ins_neg _ h, ins_neg l hy]
    | false =>
      cases hy : bet y z with
      | true =>
        rw [ins_neg l hx, ins_pos l hy, ins_pos _ hy]
        have h : bet x y = false := by
          cases h : bet x y with
          | false => rfl
          | true =>
            rw [bet_iff] at h hy; rw [bet_not] at hx; exfalso; omega
        rw [ins_neg _ h, ins_neg l hx]
      | false => rw [ins_neg l hx, ins_neg l hy, ins_neg _ hx, ins_neg _ hy, IH]
theorem take_ins (x : Pr) : ∀ (n : Nat) (l : List Pr), (ins x (l.take n)).take n = (ins x l).take n := by
  intro n
  induction n with
  | zero => intro l; rfl
  | succ n IH =>
    intro l
    cases l with
    | nil => rfl
    | cons y l =>
      rw [List.take_succ_cons]
      cases h : bet x y with
      | true =>
        rw [ins_pos _ h, ins_pos _ h, List.take_succ_cons, List.take_succ_cons]
        cases n with
        | zero => rfl
        | succ n => rw [List.take_succ_cons, List.take_succ_cons, List.take_take, Nat.min_eq_left (Nat.le_succ n)]
      | false => rw [ins_neg _ h, ins_neg _ h, List.take_succ_cons, List.take_succ_cons, IH]
theorem oL_comm (l : List Pr) (x y : Pr) : oL (oL l x) y = oL (oL l y) x := by
  unfold oL
  by_cases hx : 0 < x.1
  · by_cases hy : 0 < y.1
    · rw [if_pos hx, if_pos hy, if_pos hy, if_pos hx, take_ins, take_ins, ins_comm]
    · rw [if_pos hx, if_neg hy, if_neg hy, if_pos hx]
  · by_cases hy : 0 < y.1
    · rw [if_neg hx, if_pos hy, if_neg hx]
    · rw [if_neg hx, if_neg hy, if_neg hx]
theorem oL_perm {l1 l2 : List Pr} (h : l1.Perm l2) : ∀ acc : List Pr, l1.foldl oL acc = l2.foldl oL acc := by
  induction h with
  | nil => intro acc; rfl
  | cons x _ ih => intro acc; rw [List.foldl_cons, List.foldl_cons, ih]
  | swap x y l => intro acc; rw [List.foldl_cons, List.foldl_cons, List.foldl_cons, List.foldl_cons, oL_comm]
  | trans _ _ ih1 ih2 => intro acc; rw [ih1, ih2]
theorem ins_perm (x : Pr) : ∀ l : List Pr, (ins x l).Perm (x :: l)
  | [] => List.Perm.refl _
  | y :: l => by
    cases h : bet x y with
    | true => rw [ins_pos _ h]
    | false => rw [ins_neg _ h]; exact ((ins_perm x l).cons y).trans (List.Perm.swap x y l)
/-- the list with all of l put in, uncut -/
def iS (acc l : List Pr) : List Pr := l.foldl (fun a x => ins x a) acc
theorem iS_cons (acc : List Pr) (x : Pr) (l : List Pr) : iS acc (x :: l) = iS (ins x acc) l := rfl
theorem iS_top : ∀ (l acc : List Pr), (∀ x, x ∈ l → 0 < x.1) → l.foldl oL (acc.take 10) = (iS acc l).take 10 := by
  intro l
  induction l with
  | nil => intro acc _; rfl
  | cons x l IH =>
    intro acc h
    rw [List.foldl_cons, iS_cons, ← IH (ins x acc) (fun z hz => h z (List.mem_cons_of_mem _ hz))]
    unfold oL
    rw [if_pos (h x List.mem_cons_self), take_ins]
theorem iS_srt : ∀ (l acc : List Pr), Srt acc → Srt (iS acc l) := by
  intro l
  induction l with
  | nil => intro acc h; exact h
  | cons x l IH => intro acc h; rw [iS_cons]; exact IH _ (Srt_ins x h)
theorem iS_perm : ∀ (l acc : List Pr), (iS acc l).Perm (acc ++ l) := by
  intro l
  induction l with
  | nil => intro acc; rw [List.append_nil]; exact List.Perm.refl _
  | cons x l IH =>
    intro acc
    rw [iS_cons]
    refine (IH (ins x acc)).trans ?_
    refine ((ins_perm x acc).append_right l).trans ?_
    show (x :: acc ++ l).Perm (acc ++ x :: l)
    exact (List.perm_middle (a := x) (l₁ := acc) (l₂ := l)).symm
theorem take_worse (z : Pr) : ∀ (S : List Pr) (n : Nat), Srt S → n ≤ S.countP (fun y => !bet z y) → (ins z S).take n = S.take n := by
  intro S
  induction S with
  | nil => intro n _ hn; rw [List.countP_nil] at hn; rw [Nat.le_zero.mp hn]; rfl
  | cons y S IH =>
    intro n hs hn
    cases h : bet z y with
    | true =>
      have hz : (y :: S).countP (fun y => !bet z y) = 0 := by
        rw [List.countP_eq_zero]
        intro w hw
        rcases List.mem_cons.mp hw with rfl | hw
        · simp [h]
        · have h1 : bet w y = false := (List.pairwise_cons.mp hs).1 w hw
          have h2 : bet z w = true := by
            rw [bet_iff] at h ⊢; rw [bet_not] at h1; omega
          simp [h2]
      rw [hz] at hn
      rw [Nat.le_zero.mp hn]; rfl
    | false =>
      rw [ins_neg _ h]
      cases n with
      | zero => rfl
      | succ n =>
        rw [List.countP_cons_of_pos (by simp [h])] at hn
        rw [List.take_succ_cons, List.take_succ_cons, IH n (List.pairwise_cons.mp hs).2 (by omega)]
/-- a ranking: in its order, ten at most, no weight of 0 -/
def Gd (l : List Pr) : Prop := Srt l ∧ l.length ≤ 10 ∧ ∀ x, x ∈ l → 0 < x.1
theorem Gd_nil : Gd [] := ⟨List.Pairwise.nil, Nat.zero_le _, fun x hx => absurd hx (List.not_mem_nil)⟩
theorem Gd_oL {l : List Pr} (h : Gd l) (x : Pr) : Gd (oL l x) := by
  refine ⟨Srt_oL h.1 x, ?_, fun z hz => ?_⟩
  · unfold oL; split
    · rw [List.length_take]; omega
    · exact h.2.1
  · rcases oL_mem hz with rfl | hz'
    · unfold oL at hz
      by_cases c : 0 < z.1
      · exact c
      · rw [if_neg c] at hz; exact h.2.2 z hz
    · exact h.2.2 z hz'
theorem Gd_foldl (l : List Pr) : ∀ acc, Gd acc → Gd (l.foldl oL acc) := by
  induction l with
  | nil => intro acc h; exact h
  | cons x l IH => intro acc h; rw [List.foldl_cons]; exact IH _ (Gd_oL h x)
theorem take_self {l : List Pr} (h : l.length ≤ 10) : l.take 10 = l := List.take_of_length_le h
theorem oL_of_top {acc l : List Pr} (ha : Gd acc) (hl : Gd l) (x : Pr) : (oL l x).foldl oL acc = oL (l.foldl oL acc) x := by
  have e1 : (l ++ [x]).foldl oL acc = oL (l.foldl oL acc) x := by rw [List.foldl_append]; rfl
  have eo : oL l x = if 0 < x.1 then (ins x l).take 10 else l := rfl
  by_cases hx : 0 < x.1
  · rw [eo, if_pos hx]
    by_cases h10 : l.length < 10
    · rw [List.take_of_length_le (by rw [ins_len]; omega), ← e1]
      exact oL_perm ((ins_perm x l).trans (List.perm_append_comm (l₁ := [x]) (l₂ := l))) acc
    · have hlen : (ins x l).length = 11 := by rw [ins_len]; have := hl.2.1; omega
      have hsp : ins x l = (ins x l).take 10 ++ (ins x l).drop 10 := (List.take_append_drop 10 _).symm
      have hd1 : ((ins x l).drop 10).length = 1 := by rw [List.length_drop, hlen]
      obtain ⟨z, hz⟩ := List.length_eq_one_iff.mp hd1
      rw [hz] at hsp
      generalize hq : (ins x l).take 10 = q at *
      have hpos : ∀ y, y ∈ ins x l → 0 < y.1 := fun y hy => by
        rcases ins_mem hy with rfl | hy
        · exact hx
        · exact hl.2.2 y hy
      have hsr : Srt (ins x l) := Srt_ins x hl.1
      have hq10 : q.length = 10 := by rw [← hq, List.length_take, hlen]; rfl
      have e2 : (q ++ [z]).foldl oL acc = oL (q.foldl oL acc) z := by rw [List.foldl_append]; rfl
      have e3 : (l ++ [x]).foldl oL acc = (q ++ [z]).foldl oL acc := by
        rw [← hsp]
        exact (oL_perm ((ins_perm x l).trans (List.perm_append_comm (l₁ := [x]) (l₂ := l))) acc).symm
      rw [← e1, e3, e2]
      have hqm : ∀ y, y ∈ q → y ∈ ins x l := fun y hy => by rw [hsp]; exact List.mem_append_left _ hy
      have hzm : z ∈ ins x l := by rw [hsp]; exact List.mem_append_right _ List.mem_cons_self
      have hzp : 0 < z.1 := hpos z hzm
      have e4 : q.foldl oL acc = (iS acc q).take 10 := by
        have := iS_top q acc (fun y hy => hpos y (hqm y hy))
        rwa [take_self ha.2.1] at this
      have e5 : oL (q.foldl oL acc) z = (ins z (iS acc q)).take 10 := by
        rw [e4]; unfold oL; rw [if_pos hzp, take_ins]
      rw [e5, e4]
      refine (take_worse z (iS acc q) 10 (iS_srt q acc ha.1) ?_).symm
      rw [(iS_perm q acc).countP_eq, List.countP_append]
      have h7 : q.countP (fun y => !bet z y) = q.length := by
        rw [List.countP_eq_length]
        intro y hy
        unfold Srt at hsr
        rw [hsp, List.pairwise_append] at hsr
        have := hsr.2.2 y hy z List.mem_cons_self
        simp [this]
      rw [h7, hq10]; omega
  · rw [eo, if_neg hx]
    show _ = if 0 < x.1 then _ else _
    rw [if_neg hx]
theorem oL_top (l : List Pr) : ∀ (l0 acc : List Pr), Gd acc → Gd l0 → (l.foldl oL l0).foldl oL acc = l.foldl oL (l0.foldl oL acc) := by
  induction l with
  | nil => intro l0 acc _ _; rfl
  | cons x l IH =>
    intro l0 acc ha h0
    rw [List.foldl_cons, IH (oL l0 x) acc ha (Gd_oL h0 x), oL_of_top ha h0 x, List.foldl_cons]
/-- the ten best of the ten best, behind a map that keeps their order -/
theorem ins_map {f : Pr → Pr} (hf : ∀ x y, bet (f x) (f y) = bet x y) (x : Pr) : ∀ l : List Pr, ins (f x) (l.map f) = (ins x l).map f
  | [] => rfl
  | y :: l => by
    rw [List.map_cons]
    cases h : bet x y with
    | true => rw [ins_pos _ h, ins_pos _ (by rw [hf]; exact h)]; rfl
    | false => rw [ins_neg _ h, ins_neg _ (by rw [hf]; exact h), ins_map hf x l]; rfl
theorem oL_map {f : Pr → Pr} (hf : ∀ x y, bet (f x) (f y) = bet x y) (hp : ∀ x, 0 < (f x).1 ↔ 0 < x.1) (l : List Pr) (x : Pr) : oL (l.map f) (f x) = (oL l x).map f := by
  unfold oL
  by_cases h : 0 < x.1
  · rw [if_pos h, if_pos ((hp x).mpr h), ins_map hf, List.map_take]
  · rw [if_neg h, if_neg (fun c => h ((hp x).mp c))]
theorem oLs_map {f : Pr → Pr} (hf : ∀ x y, bet (f x) (f y) = bet x y) (hp : ∀ x, 0 < (f x).1 ↔ 0 < x.1) (l : List Pr) : ∀ acc : List Pr, (l.map f).foldl oL (acc.map f) = (l.foldl oL acc).map f := by
  induction l with
  | nil => intro acc; rfl
  | cons x l IH => intro acc; rw [List.map_cons, List.foldl_cons, oL_map hf hp, IH, List.foldl_cons]
theorem ext_bet {a g : Int} (ha : 0 < a) (x y : Pr) : bet (extF a g x) (extF a g y) = bet x y := by
  have h1 : y.1 * a < x.1 * a ↔ y.1 < x.1 := Int.mul_lt_mul_right ha
  have h2 : x.1 * a = y.1 * a ↔ x.1 = y.1 := ⟨fun h => Int.eq_of_mul_eq_mul_right (Int.ne_of_gt ha) h, fun h => by rw [h]⟩
  have h3 : (x.2 * 2 ^ 3 + g < y.2 * 2 ^ 3 + g) ↔ x.2 < y.2 := by omega
  unfold bet extF
  simp only [h1, h2, h3]
theorem ext_pos {a g : Int} (ha : 0 < a) (x : Pr) : 0 < (extF a g x).1 ↔ 0 < x.1 := by
  have h1 : 0 * a < x.1 * a ↔ 0 < x.1 := Int.mul_lt_mul_right ha
  rw [Int.zero_mul] at h1
  exact h1
theorem oL_zero (l : List Pr) : ∀ acc : List Pr, (∀ x, x ∈ l → x.1 = 0) → l.foldl oL acc = acc := by
  induction l with
  | nil => intro acc _; rfl
  | cons x l IH =>
    intro acc h
    rw [List.foldl_cons]
    have e : oL acc x = acc := by unfold oL; rw [if_neg (by rw [h x List.mem_cons_self]; decide)]
    rw [e]; exact IH acc (fun z hz => h z (List.mem_cons_of_mem _ hz))
theorem oL_ext {a g : Int} (ha : 0 ≤ a) (l : List Pr) {acc : List Pr} (hac : Gd acc) : ((l.foldl oL []).map (extF a g)).foldl oL acc = (l.map (extF a g)).foldl oL acc := by
  by_cases h : 0 < a
  · have e := oLs_map (ext_bet (g := g) h) (ext_pos (g := g) h) l []
    rw [← e, List.map_nil, oL_top _ [] acc hac Gd_nil]; rfl
  · have h0 : a = 0 := by omega
    subst h0
    have hz : ∀ l : List Pr, ∀ x, x ∈ l.map (extF 0 g) → x.1 = 0 := by
      intro l x hx
      obtain ⟨y, -, rfl⟩ := List.mem_map.mp hx
      exact Int.mul_zero _
    rw [oL_zero _ _ (hz _), oL_zero _ _ (hz _)]
