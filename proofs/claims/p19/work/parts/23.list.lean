/-! ===== rankings as lists ===== -/
abbrev Pr := Int × Int
def bet (x y : Pr) : Bool := decide (y.1 < x.1 ∨ (x.1 = y.1 ∧ x.2 < y.2))
def ins (x : Pr) : List Pr → List Pr
  | [] => [x]
  | y :: l => if bet x y then x :: y :: l else y :: ins x l
def Srt (l : List Pr) : Prop := l.Pairwise (fun x y => bet y x = false)
def oL (l : List Pr) (x : Pr) : List Pr := if 0 < x.1 then (ins x l).take 10 else l
def gl (l : List Pr) (k : Nat) : Pr := l.getD k (0, 0)
theorem ins_len (x : Pr) : ∀ l : List Pr, (ins x l).length = l.length + 1
  | [] => rfl
  | y :: l => by
    unfold ins
    split
    · rfl
    · rw [List.length_cons, ins_len x l, List.length_cons]
theorem ins_at (x : Pr) : ∀ (l : List Pr) (r : Nat), r ≤ l.length → (∀ k, k < r → bet x (gl l k) = false) → (r < l.length → bet x (gl l r) = true) → ∀ k, gl (ins x l) k = if k < r then gl l k else if k = r then x else gl l (k - 1)
  | [], r, hr, _, _, k => by
    have : r = 0 := by simpa using hr
    subst this
    cases k with
    | zero => rfl
    | succ k => simp [ins, gl]
  | y :: l, 0, _, _, h2, k => by
    have hb : bet x y = true := h2 (by simp)
    simp only [ins, hb, if_true]
    cases k with
    | zero => rfl
    | succ k => simp [gl]
  | y :: l, r + 1, hr, h1, h2, k => by
    have hb : bet x y = false := h1 0 (by omega)
    have ih := ins_at x l r (by simpa using hr) (fun k hk => h1 (k + 1) (by omega)) (fun h => h2 (by simpa using h))
    simp only [ins, hb]
    cases k with
    | zero => simp [gl]
    | succ k =>
      have e : gl (y :: ins x l) (k + 1) = gl (ins x l) k := by simp [gl]
      rw [if_neg (by decide), e, ih k]
      by_cases c1 : k < r
      · rw [if_pos c1, if_pos (by omega)]; simp [gl]
      · rw [if_neg c1, if_neg (show ¬ k + 1 < r + 1 by omega)]
        by_cases c2 : k = r
        · rw [if_pos c2, if_pos (show k + 1 = r + 1 by omega)]
        · rw [if_neg c2, if_neg (show ¬ k + 1 = r + 1 by omega)]
          obtain ⟨q, rfl⟩ : ∃ q, k = q + 1 := ⟨k - 1, by omega⟩
          simp [gl]
theorem bet_trans {x y z : Pr} (h : bet x y = true) (h2 : bet z y = false) : bet x z = true := by
  simp only [bet, decide_eq_true_eq, decide_eq_false_iff_not] at *; omega
theorem bet_asymm {x y : Pr} (h : bet x y = true) : bet y x = false := by
  simp only [bet, decide_eq_true_eq, decide_eq_false_iff_not] at *; omega
theorem gl_get (l : List Pr) {k : Nat} (h : k < l.length) : gl l k = l[k] := by simp [gl, h]
theorem Srt_gl {l : List Pr} (h : Srt l) {i k : Nat} (hi : i < k) (hk : k < l.length) : bet (gl l k) (gl l i) = false := by
  rw [gl_get l hk, gl_get l (by omega)]
  exact List.pairwise_iff_getElem.1 h i k (by omega) hk hi
theorem ins_mem {x z : Pr} : ∀ {l : List Pr}, z ∈ ins x l → z = x ∨ z ∈ l
  | [], h => by simp [ins] at h; exact Or.inl h
  | y :: l, h => by
    unfold ins at h
    split at h
    · simpa using h
    · rcases List.mem_cons.1 h with h | h
      · exact Or.inr (by simp [h])
      · rcases ins_mem h with h | h
        · exact Or.inl h
        · exact Or.inr (by simp [h])
theorem Srt_ins (x : Pr) : ∀ {l : List Pr}, Srt l → Srt (ins x l)
  | [], _ => by simp [ins, Srt]
  | y :: l, h => by
    have h' := List.pairwise_cons.1 h
    unfold ins
    by_cases hb : bet x y = true
    · rw [if_pos hb]
      refine List.pairwise_cons.2 ⟨fun z hz => ?_, h⟩
      rcases List.mem_cons.1 hz with rfl | hz
      · exact bet_asymm hb
      · exact bet_asymm (bet_trans hb (h'.1 z hz))
    · rw [if_neg hb]
      refine List.pairwise_cons.2 ⟨fun z hz => ?_, Srt_ins x h'.2⟩
      rcases ins_mem hz with rfl | hz
      · simpa using hb
      · exact h'.1 z hz
theorem Srt_oL {l : List Pr} (h : Srt l) (x : Pr) : Srt (oL l x) := by
  unfold oL; split
  · exact List.Pairwise.sublist (List.take_sublist 10 _) (Srt_ins x h)
  · exact h
def RK (m : mMM) (a : Nat) (l : List Pr) : Prop := m a 2 = (l.length : Int) ∧ l.length ≤ 10 ∧ ∀ k, k < l.length → m (a + 1) k = (gl l k).1 ∧ m (a + 2) k = (gl l k).2
theorem RK_bet {m : mMM} {a : Nat} {l : List Pr} (h : RK m a l) {w p : Int} {k : Nat} (hk : k < l.length) : bet (w, p) (gl l k) = betM m a w p k := by
  have e := h.2.2 k hk
  simp only [bet, betM, e.1, e.2]
theorem scM_spec (m : mMM) (a : Nat) (w p : Int) : ∀ n, (∀ k, scM m a w p n ≤ k → k < n → betM m a w p k = true) ∧ (0 < scM m a w p n → betM m a w p (scM m a w p n - 1) = false)
  | 0 => ⟨fun k _ h => absurd h (by omega), fun h => absurd h (Nat.lt_irrefl 0)⟩
  | n + 1 => by
    have ih := scM_spec m a w p n
    by_cases hb : betM m a w p n = true
    · have e : scM m a w p (n + 1) = scM m a w p n := by
        show (if betM m a w p n = true then scM m a w p n else n + 1) = _
        rw [if_pos hb]
      rw [e]
      refine ⟨fun k h1 h2 => ?_, ih.2⟩
      by_cases c : k = n
      · rw [c]; exact hb
      · exact ih.1 k h1 (by omega)
    · have e : scM m a w p (n + 1) = n + 1 := by
        show (if betM m a w p n = true then scM m a w p n else n + 1) = _
        rw [if_neg hb]
      rw [e]
      refine ⟨fun k h1 h2 => absurd h1 (by omega), fun _ => ?_⟩
      simpa using hb
theorem gl_take (l : List Pr) {n k : Nat} (h : k < n) : gl (l.take n) k = gl l k := by
  simp only [gl, List.getD_eq_getElem?_getD, List.getElem?_take, h, if_true]
theorem rk_off {m : mMM} {a : Nat} {l : List Pr} (h : RK m a l) (hs : Srt l) (w p : Int) : RK (tailM m a l.length w p (scM m a w p l.length)) a (oL l (w, p)) := by
  have hsp := scM_spec m a w p l.length
  have hle := scM_le m a w p l.length
  generalize scM m a w p l.length = r at *
  have h10 := h.2.1
  have hA : ∀ k, k < r → bet (w, p) (gl l k) = false := by
    intro k hk
    have h0 := hsp.2 (by omega)
    rw [← RK_bet h (by omega)] at h0
    by_cases c : k = r - 1
    · rw [c]; exact h0
    · cases hb : bet (w, p) (gl l k) with
      | false => rfl
      | true => exact absurd (bet_trans hb (Srt_gl hs (i := k) (k := r - 1) (by omega) (by omega))) (by rw [h0]; decide)
  have hB : r < l.length → bet (w, p) (gl l r) = true := fun c => by rw [RK_bet h c]; exact hsp.1 r (Nat.le_refl _) c
  have hI := ins_at (w, p) l r hle hA hB
  unfold oL tailM
  by_cases hw : 0 < w
  · rw [if_pos (show 0 < (w, p).1 from hw)]
    by_cases hr : r < 10
    · rw [if_pos ⟨hw, hr⟩]
      have hlen : ((ins (w, p) l).take 10).length = min 10 (l.length + 1) := by rw [List.length_take, ins_len]
      refine ⟨?_, by rw [hlen]; omega, ?_⟩
      · rw [hlen]; unfold insM
        rw [up_ne1 _ _ (by omega), up_ne1 _ _ (by omega)]
        simp only [shiftM]
        rw [if_neg (by omega), up_eq]
      · intro k hk
        rw [hlen] at hk
        rw [gl_take _ (by omega), hI k]
        unfold insM
        have hm1 : ∀ j, up m a 2 ((min 10 (l.length + 1) : Nat) : Int) (a + 1) j = m (a + 1) j := fun j => up_ne1 _ _ (by omega)
        have hm2 : ∀ j, up m a 2 ((min 10 (l.length + 1) : Nat) : Int) (a + 2) j = m (a + 2) j := fun j => up_ne1 _ _ (by omega)
        constructor
        · rw [up_ne1 _ _ (by omega)]
          by_cases c2 : k = r
          · subst c2; rw [up_eq, if_neg (by omega), if_pos rfl]
          · rw [up_ne2 _ _ c2]
            simp only [shiftM]
            by_cases c1 : k < r
            · rw [if_neg (by omega), hm1, if_pos c1]; exact (h.2.2 k (by omega)).1
            · rw [if_pos ⟨by simp, by omega, by omega⟩, hm1, if_neg c1, if_neg c2]; exact (h.2.2 (k - 1) (by omega)).1
        · by_cases c2 : k = r
          · subst c2; rw [up_eq, if_neg (by omega), if_pos rfl]
          · rw [up_ne2 _ _ c2, up_ne1 _ _ (by omega)]
            simp only [shiftM]
            by_cases c1 : k < r
            · rw [if_neg (by omega), hm2, if_pos c1]; exact (h.2.2 k (by omega)).2
            · rw [if_pos ⟨by simp, by omega, by omega⟩, hm2, if_neg c1, if_neg c2]; exact (h.2.2 (k - 1) (by omega)).2
    · rw [if_neg (by omega)]
      have hl : l.length = 10 := by omega
      have hr2 : r = 10 := by omega
      have hlen : ((ins (w, p) l).take 10).length = 10 := by rw [List.length_take, ins_len]; omega
      refine ⟨by rw [hlen, h.1, hl], by rw [hlen]; omega, ?_⟩
      intro k hk
      rw [hlen] at hk
      rw [gl_take _ hk, hI k, if_pos (by omega)]
      exact h.2.2 k (by omega)
  · rw [if_neg (show ¬ 0 < (w, p).1 from hw), if_neg (by omega)]
    exact h
def FR (m m' : mMM) (a : Nat) : Prop := ∀ b k, b ≠ a → b ≠ a + 1 → b ≠ a + 2 → m' b k = m b k
theorem fr_tail (m : mMM) (a n : Nat) (w p : Int) (r : Nat) : FR m (tailM m a n w p r) a := by
  intro b k h1 h2 h3
  unfold tailM; split
  · unfold insM
    rw [up_ne1 _ _ h3, up_ne1 _ _ h2]
    simp only [shiftM]
    rw [if_neg (by omega), up_ne1 _ _ h1]
  · rfl
