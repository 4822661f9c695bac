/-! ===== words: alike in both codings; what the weights of words come to ===== -/
def VD (x a0 a1 a2 a3 a4 a5 : Int) : Prop := x = a0 + 32 * a1 + 1024 * a2 + 32768 * a3 + 1048576 * a4 + 33554432 * a5 ∧ (1 ≤ a0 ∧ a0 ≤ 26) ∧ (0 ≤ a1 ∧ a1 ≤ 26) ∧ (0 ≤ a2 ∧ a2 ≤ 26) ∧ (0 ≤ a3 ∧ a3 ≤ 26) ∧ (0 ≤ a4 ∧ a4 ≤ 26) ∧ (0 ≤ a5 ∧ a5 ≤ 26) ∧ (a1 = 0 → a2 = 0) ∧ (a2 = 0 → a3 = 0) ∧ (a3 = 0 → a4 = 0) ∧ (a4 = 0 → a5 = 0)
def VWd (x : Int) : Prop := ∃ a0 a1 a2 a3 a4 a5, VD x a0 a1 a2 a3 a4 a5
theorem VD_bd {x a0 a1 a2 a3 a4 a5 : Int} (h : VD x a0 a1 a2 a3 a4 a5) : 0 < x ∧ x < 1073741824 := by unfold VD at h; omega
theorem VD_cv {x a0 a1 a2 a3 a4 a5 : Int} (h : VD x a0 a1 a2 a3 a4 a5) : cv x = a0 + 27 * a1 + 729 * a2 + 19683 * a3 + 531441 * a4 + 14348907 * a5 := by
  unfold VD at h
  have e0 : x % 32 = a0 := by omega
  have e1 : x / 32 % 32 = a1 := by omega
  have e2 : x / 1024 % 32 = a2 := by omega
  have e3 : x / 32768 % 32 = a3 := by omega
  have e4 : x / 1048576 % 32 = a4 := by omega
  have e5 : x / 33554432 % 32 = a5 := by omega
  unfold cv; rw [e0, e1, e2, e3, e4, e5]
theorem VD_like {x a0 a1 a2 a3 a4 a5 y b0 b1 b2 b3 b4 b5 : Int} (h : VD x a0 a1 a2 a3 a4 a5) (h2 : VD y b0 b1 b2 b3 b4 b5) : likeF x y = if x = y then 4 else if a0 = b0 then (if a1 = b1 then (if a2 = b2 then 3 else 2) else 1) else 0 := by
  unfold VD at h h2
  have p5 : (2 : Int) ^ 5 = 32 := rfl
  have p0 : (2 : Int) ^ 0 = 1 := rfl
  have p10 : (2 : Int) ^ 10 = 1024 := rfl
  have e0 : x % 32 = a0 := by omega
  have e1 : x / 32 % 32 = a1 := by omega
  have e2 : x / 1024 % 32 = a2 := by omega
  have f0 : y % 32 = b0 := by omega
  have f1 : y / 32 % 32 = b1 := by omega
  have f2 : y / 1024 % 32 = b2 := by omega
  unfold likeF
  rw [p5, p0, p10, Int.ediv_one, Int.ediv_one, e0, e1, e2, f0, f1, f2]
  have g0 : (a0 * 1 = b0 * 1) ↔ a0 = b0 := by omega
  have g1 : (a1 * 32 = b1 * 32) ↔ a1 = b1 := by omega
  have g2 : (a2 * 1024 = b2 * 1024) ↔ a2 = b2 := by omega
  simp only [g0, g1, g2]
theorem tm_lit {x y : Int} (h : 0 ≤ x) : x.tmod y = x % y := Int.tmod_eq_emod_of_nonneg h
theorem lk4 {x y : Int} (h : VWd x) (h2 : VWd y) : (cv x).tmod 387420489 = (cv y).tmod 387420489 ↔ likeF x y = 4 := by
  obtain ⟨a0, a1, a2, a3, a4, a5, h⟩ := h
  obtain ⟨b0, b1, b2, b3, b4, b5, h2⟩ := h2
  rw [tm_lit (cv_bd x).1, tm_lit (cv_bd y).1, VD_like h h2, VD_cv h, VD_cv h2]
  unfold VD at h h2
  constructor
  · intro e
    have : x = y := by omega
    rw [if_pos this]
  · intro e
    by_cases c : x = y
    · have h0 : a0 = b0 := by omega
      have h1 : a1 = b1 := by omega
      have h3 : a2 = b2 := by omega
      have h4 : a3 = b3 := by omega
      have h5 : a4 = b4 := by omega
      have h6 : a5 = b5 := by omega
      rw [h0, h1, h3, h4, h5, h6]
    · rw [if_neg c] at e; exfalso; revert e; repeat (first | split | omega)
theorem lk3 {x y : Int} (h : VWd x) (h2 : VWd y) (h3 : 19683 ≤ cv y * 27) : (cv x).tmod 19683 = (cv y).tmod 19683 ↔ 3 ≤ likeF x y := by
  obtain ⟨a0, a1, a2, a3, a4, a5, h⟩ := h
  obtain ⟨b0, b1, b2, b3, b4, b5, h2⟩ := h2
  rw [tm_lit (cv_bd x).1, tm_lit (cv_bd y).1, VD_like h h2]
  rw [VD_cv h2] at h3
  rw [VD_cv h, VD_cv h2]
  unfold VD at h h2
  by_cases c : x = y
  · rw [if_pos c]
    have h0 : a0 = b0 := by omega
    have h1 : a1 = b1 := by omega
    have h3 : a2 = b2 := by omega
    omega
  · rw [if_neg c]; repeat (first | split | omega)
theorem lk2 {x y : Int} (h : VWd x) (h2 : VWd y) (h3 : 729 ≤ cv y * 27) : (cv x).tmod 729 = (cv y).tmod 729 ↔ 2 ≤ likeF x y := by
  obtain ⟨a0, a1, a2, a3, a4, a5, h⟩ := h
  obtain ⟨b0, b1, b2, b3, b4, b5, h2⟩ := h2
  rw [tm_lit (cv_bd x).1, tm_lit (cv_bd y).1, VD_like h h2]
  rw [VD_cv h2] at h3
  rw [VD_cv h, VD_cv h2]
  unfold VD at h h2
  by_cases c : x = y
  · rw [if_pos c]
    have h0 : a0 = b0 := by omega
    have h1 : a1 = b1 := by omega
    omega
  · rw [if_neg c]; repeat (first | split | omega)
theorem lk1 {x y : Int} (h : VWd x) (h2 : VWd y) : (cv x).tmod 27 = (cv y).tmod 27 ↔ 1 ≤ likeF x y := by
  obtain ⟨a0, a1, a2, a3, a4, a5, h⟩ := h
  obtain ⟨b0, b1, b2, b3, b4, b5, h2⟩ := h2
  rw [tm_lit (cv_bd x).1, tm_lit (cv_bd y).1, VD_like h h2]
  rw [VD_cv h, VD_cv h2]
  unfold VD at h h2
  by_cases c : x = y
  · rw [if_pos c]
    have h0 : a0 = b0 := by omega
    omega
  · rw [if_neg c]; repeat (first | split | omega)
theorem lkn {x y : Int} (h : VWd x) (h2 : VWd y) : (likeF x y = 3 → 19683 ≤ cv y * 27) ∧ (likeF x y = 2 → 729 ≤ cv y * 27) ∧ 27 ≤ cv y * 27 := by
  obtain ⟨a0, a1, a2, a3, a4, a5, h⟩ := h
  obtain ⟨b0, b1, b2, b3, b4, b5, h2⟩ := h2
  rw [VD_like h h2, VD_cv h2]
  unfold VD at h h2
  refine ⟨?_, ?_, by omega⟩
  · by_cases c : x = y
    · rw [if_pos c]; intro e; omega
    · rw [if_neg c]
      by_cases c0 : a0 = b0
      · rw [if_pos c0]
        by_cases c1 : a1 = b1
        · rw [if_pos c1]
          by_cases c2 : a2 = b2
          · intro _
            by_cases z : b2 = 0
            · exfalso; omega
            · omega
          · rw [if_neg c2]; intro e; omega
        · rw [if_neg c1]; intro e; omega
      · rw [if_neg c0]; intro e; omega
  · by_cases c : x = y
    · rw [if_pos c]; intro e; omega
    · rw [if_neg c]
      by_cases c0 : a0 = b0
      · rw [if_pos c0]
        by_cases c1 : a1 = b1
        · intro _
          by_cases z : b1 = 0
          · exfalso; omega
          · omega
        · rw [if_neg c1]; intro e; omega
      · rw [if_neg c0]; intro e; omega
