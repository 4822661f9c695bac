/-! ===== sums over paths by their numbers ===== -/
def sumR : Nat → (Nat → Int) → Int
  | 0, _ => 0
  | N + 1, f => sumR N f + f N
theorem sumR_congr {f g : Nat → Int} : ∀ N, (∀ q, q < N → f q = g q) → sumR N f = sumR N g := by
  intro N
  induction N with
  | zero => intro _; rfl
  | succ N IH => intro h; show sumR N f + f N = sumR N g + g N; rw [IH (fun q hq => h q (by omega)), h N (by omega)]
theorem sumR_mul (c : Int) (f : Nat → Int) : ∀ N, sumR N (fun q => f q * c) = sumR N f * c := by
  intro N
  induction N with
  | zero => exact (Int.zero_mul c).symm
  | succ N IH => show sumR N _ + f N * c = (sumR N f + f N) * c; rw [IH, Int.add_mul]
theorem sumR_S5 (F : Nat → Nat → Int) : ∀ N, sumR N (fun q => S5 (fun g => F q g)) = S5 (fun g => sumR N (fun q => F q g)) := by
  intro N
  induction N with
  | zero => rfl
  | succ N IH =>
    show sumR N _ + S5 (fun g => F N g) = S5 (fun g => sumR N (fun q => F q g) + F N g)
    rw [IH]; unfold S5; dsimp only; omega
theorem sumR5 (f : Nat → Int) : ∀ N, sumR (5 * N) f = sumR N (fun q => S5 (fun g => f (5 * q + g))) := by
  intro N
  induction N with
  | zero => rfl
  | succ N IH =>
    rw [show 5 * (N + 1) = 5 * N + 1 + 1 + 1 + 1 + 1 by omega]
    show sumR (5 * N) f + f (5 * N + 0) + f (5 * N + 1) + f (5 * N + 2) + f (5 * N + 3) + f (5 * N + 4) = sumR N _ + S5 (fun g => f (5 * N + g))
    rw [IH]; unfold S5; dsimp only; omega
theorem sumR_add (f g : Nat → Int) : ∀ N, sumR N (fun q => f q + g q) = sumR N f + sumR N g := by
  intro N
  induction N with
  | zero => rfl
  | succ N IH => show sumR N _ + (f N + g N) = sumR N f + f N + (sumR N g + g N); rw [IH]; omega
theorem sumR_bd {f : Nat → Int} {b : Int} : ∀ N, (∀ q, q < N → 0 ≤ f q ∧ f q ≤ b) → 0 ≤ sumR N f ∧ sumR N f ≤ (N : Int) * b := by
  intro N
  induction N with
  | zero => intro _; exact ⟨Int.le_refl 0, by show (0 : Int) ≤ ((0 : Nat) : Int) * b; simp⟩
  | succ N IH =>
    intro h
    have h1 := IH (fun q hq => h q (by omega))
    have h2 := h N (by omega)
    show 0 ≤ sumR N f + f N ∧ sumR N f + f N ≤ ((N + 1 : Nat) : Int) * b
    have e : ((N + 1 : Nat) : Int) * b = (N : Int) * b + b := by rw [Int.natCast_add, Int.add_mul]; simp
    rw [e]; omega
theorem sumR_le {f g : Nat → Int} : ∀ N, (∀ q, q < N → f q ≤ g q) → sumR N f ≤ sumR N g := by
  intro N
  induction N with
  | zero => intro _; exact Int.le_refl 0
  | succ N IH => intro h; show sumR N f + f N ≤ sumR N g + g N; have h1 := IH (fun q hq => h q (by omega)); have h2 := h N (by omega); omega
theorem sumR_pos {f : Nat → Int} : ∀ N, (∀ q, q < N → 0 ≤ f q) → ∀ q, q < N → f q ≤ sumR N f := by
  intro N
  induction N with
  | zero => intro _ q hq; exact absurd hq (Nat.not_lt_zero q)
  | succ N IH =>
    intro h q hq
    have h2 := h N (by omega)
    show f q ≤ sumR N f + f N
    by_cases c : q = N
    · subst c
      have h3 := (sumR_bd (f := f) (b := sumR q f + f q) q)
      have h4 : 0 ≤ sumR q f := by
        have : ∀ n, n ≤ q → 0 ≤ sumR n f := by
          intro n
          induction n with
          | zero => intro _; exact Int.le_refl 0
          | succ n IH2 => intro hn; show 0 ≤ sumR n f + f n; have := IH2 (by omega); have := h n (by omega); omega
        exact this q (Nat.le_refl q)
      omega
    · have := IH (fun q hq => h q (by omega)) q (by omega); omega
theorem S5_sel (X : Nat → Int) {g : Nat} (hg : g < 5) : S5 (fun h => if h = g then X h else 0) = X g := by
  unfold S5
  rcases (show g = 0 ∨ g = 1 ∨ g = 2 ∨ g = 3 ∨ g = 4 by omega) with rfl | rfl | rfl | rfl | rfl <;> simp
section SUT
variable {a0 : Nat → Int} {aa : Nat → Nat → Nat → Int}
theorem AH_sum : ∀ p g, g < 5 → AH a0 aa p g = sumR (5 ^ p) (fun q => wt a0 aa (p + 1) (5 * q + g)) := by
  intro p
  induction p with
  | zero =>
    intro g hg
    show a0 g = 0 + wt a0 aa 1 (5 * 0 + g)
    rw [show 5 * 0 + g = g by omega, wt_one a0 aa hg]; omega
  | succ p IH =>
    intro g hg
    show S5 (fun f => AH a0 aa p f * aa (p + 1) f g) = _
    rw [show 5 ^ (p + 1) = 5 * 5 ^ p by rw [Nat.pow_succ, Nat.mul_comm], sumR5, sumR_S5]
    refine S5_congr (fun f hf => ?_)
    rw [IH f hf, ← sumR_mul]
    refine sumR_congr _ (fun q _ => ?_)
    rw [wt_ext a0 aa (by omega) hg, show (5 * q + f) % 5 = f by omega]
theorem part_sum {p g c : Nat} (hg : g < 5) : ∀ j e, j + e = c → AH a0 aa p g * BH aa c p g = sumR (5 ^ (p + 1 + j)) (fun q => if q / 5 ^ j % 5 = g then wt a0 aa (p + 1 + j) q * BH aa e (p + j) (q % 5) else 0) := by
  intro j
  induction j with
  | zero =>
    intro e he
    have he : e = c := by omega
    subst he
    show _ = sumR (5 ^ (p + 1)) (fun q => if q / 5 ^ 0 % 5 = g then wt a0 aa (p + 1) q * BH aa e p (q % 5) else 0)
    rw [show 5 ^ (p + 1) = 5 * 5 ^ p by rw [Nat.pow_succ, Nat.mul_comm], sumR5, AH_sum p g hg, ← sumR_mul]
    refine sumR_congr _ (fun q _ => ?_)
    rw [S5_congr (g := fun h => if h = g then wt a0 aa (p + 1) (5 * q + h) * BH aa e p h else 0) (fun h hh => by
      show (if (5 * q + h) / 5 ^ 0 % 5 = g then wt a0 aa (p + 1) (5 * q + h) * BH aa e p ((5 * q + h) % 5) else 0) = _
      rw [Nat.pow_zero, Nat.div_one, show (5 * q + h) % 5 = h by omega])]
    rw [S5_sel (fun h => wt a0 aa (p + 1) (5 * q + h) * BH aa e p h) hg]
  | succ j IH =>
    intro e he
    rw [IH (e + 1) (by omega)]
    rw [show p + 1 + (j + 1) = p + 1 + j + 1 by omega, show 5 ^ (p + 1 + j + 1) = 5 * 5 ^ (p + 1 + j) by rw [Nat.pow_succ, Nat.mul_comm], sumR5]
    refine sumR_congr _ (fun q _ => ?_)
    rw [S5_congr (g := fun h => if q / 5 ^ j % 5 = g then wt a0 aa (p + 1 + j) q * (aa (p + 1 + j) (q % 5) h * BH aa e (p + (j + 1)) h) else 0) (fun h hh => by
      show (if (5 * q + h) / 5 ^ (j + 1) % 5 = g then wt a0 aa (p + 1 + j + 1) (5 * q + h) * BH aa e (p + (j + 1)) ((5 * q + h) % 5) else 0) = _
      rw [show (5 * q + h) / 5 ^ (j + 1) = (5 * q + h) / 5 / 5 ^ j by rw [Nat.div_div_eq_div_mul, Nat.pow_succ, Nat.mul_comm (5 ^ j) 5], show (5 * q + h) / 5 = q by omega, show (5 * q + h) % 5 = h by omega, wt_ext a0 aa (by omega) hh, Int.mul_assoc])]
    by_cases c0 : q / 5 ^ j % 5 = g
    · rw [if_pos c0]
      rw [S5_congr (g := fun h => wt a0 aa (p + 1 + j) q * (aa (p + 1 + j) (q % 5) h * BH aa e (p + (j + 1)) h)) (fun h hh => if_pos c0)]
      show wt a0 aa (p + 1 + j) q * S5 (fun f => aa (p + j + 1) (q % 5) f * BH aa e (p + j + 1) f) = _
      rw [show p + 1 + j = p + j + 1 by omega, show p + (j + 1) = p + j + 1 by omega]
      unfold S5
      simp only [Int.mul_add]
    · rw [if_neg c0]
      rw [S5_congr (g := fun _ => 0) (fun h hh => if_neg c0)]
      rfl
/-- the sum of the weights of the paths with a tag at a place -/
def PS (a0 : Nat → Int) (aa : Nat → Nat → Nat → Int) (n c g : Nat) : Int := sumR (5 ^ n) (fun q => if q / 5 ^ c % 5 = g then wt a0 aa n q else 0)
theorem PS_eq {p g c n : Nat} (hg : g < 5) (hn : p + 1 + c = n) : AH a0 aa p g * BH aa c p g = PS a0 aa n c g := by
  subst hn
  rw [part_sum hg c 0 (by omega)]
  unfold PS
  refine sumR_congr _ (fun q _ => ?_)
  show (if q / 5 ^ c % 5 = g then wt a0 aa (p + 1 + c) q * 1 else 0) = _
  rw [Int.mul_one]
theorem PS_all (n c : Nat) : S5 (fun g => PS a0 aa n c g) = sumR (5 ^ n) (wt a0 aa n) := by
  unfold PS
  rw [← sumR_S5 (fun q g => if q / 5 ^ c % 5 = g then wt a0 aa n q else 0)]
  refine sumR_congr _ (fun q _ => ?_)
  have h := S5_sel (fun _ => wt a0 aa n q) (Nat.mod_lt (q / 5 ^ c) (show 0 < 5 by omega))
  refine (S5_congr (fun k _ => ?_)).trans h
  by_cases e : q / 5 ^ c % 5 = k
  · rw [if_pos e, if_pos e.symm]
  · rw [if_neg e, if_neg (fun x => e x.symm)]
theorem p5 : ∀ k, k ≤ 5 → 5 ^ k ≤ 3125 := by decide
theorem all_bd (hB : AB a0 aa) {n : Nat} (hn : n ≤ 5) : 0 ≤ sumR (5 ^ n) (wt a0 aa n) ∧ sumR (5 ^ n) (wt a0 aa n) ≤ 9000000000000000 := by
  have h := sumR_bd (5 ^ n) (fun q _ => wt_bd5 hB hn q)
  have h2 := p5 n hn
  refine ⟨h.1, Int.le_trans h.2 ?_⟩
  have h3 : ((5 ^ n : Nat) : Int) ≤ 3125 := by omega
  have h4 : ((5 ^ n : Nat) : Int) * 992436543 ≤ 3125 * 992436543 := Int.mul_le_mul_of_nonneg_right h3 (by decide)
  omega
theorem PS_bd (hB : AB a0 aa) {n : Nat} (hn : n ≤ 5) (c g : Nat) : 0 ≤ PS a0 aa n c g ∧ PS a0 aa n c g ≤ sumR (5 ^ n) (wt a0 aa n) := by
  have h1 : ∀ q, 0 ≤ (if q / 5 ^ c % 5 = g then wt a0 aa n q else 0) ∧ (if q / 5 ^ c % 5 = g then wt a0 aa n q else 0) ≤ wt a0 aa n q := fun q => by
    have h := (wt_bd5 hB hn q).1
    split
    · exact ⟨h, Int.le_refl _⟩
    · exact ⟨Int.le_refl _, h⟩
  refine ⟨?_, sumR_le _ (fun q _ => (h1 q).2)⟩
  exact (sumR_bd (b := 992436543) (5 ^ n) (fun q _ => ⟨(h1 q).1, Int.le_trans (h1 q).2 (wt_bd5 hB hn q).2⟩)).1
end SUT
