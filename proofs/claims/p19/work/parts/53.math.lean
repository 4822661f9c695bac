/-! ===== ranks, weights of paths, doublings, shares: what the law asks of them ===== -/
theorem cd_digit : ∀ j k q, j < k → cd k q / 8 ^ j % 8 = ((q / 5 ^ j % 5 : Nat) : Int) := by
  intro j
  induction j with
  | zero =>
    intro k q h
    obtain ⟨k, rfl⟩ : ∃ c, k = c + 1 := ⟨k - 1, by omega⟩
    show (cd k (q / 5) * 2 ^ 3 + ((q % 5 : Nat) : Int)) / 8 ^ 0 % 8 = _
    rw [Int.pow_zero, Int.ediv_one, Nat.pow_zero, Nat.div_one]; omega
  | succ j IH =>
    intro k q h
    obtain ⟨k, rfl⟩ : ∃ c, k = c + 1 := ⟨k - 1, by omega⟩
    have h1 := IH k (q / 5) (by omega)
    show (cd k (q / 5) * 2 ^ 3 + ((q % 5 : Nat) : Int)) / 8 ^ (j + 1) % 8 = _
    rw [show (8 : Int) ^ (j + 1) = 8 * 8 ^ j by rw [Int.pow_succ, Int.mul_comm], ← Int.ediv_ediv_of_nonneg (by decide), show (cd k (q / 5) * 2 ^ 3 + ((q % 5 : Nat) : Int)) / 8 = cd k (q / 5) by omega, h1, Nat.div_div_eq_div_mul, show 5 ^ (j + 1) = 5 * 5 ^ j by rw [Nat.pow_succ, Nat.mul_comm]]
theorem oL_len (l : List Pr) (x : Pr) (h : l.length ≤ 10) : l.length ≤ (oL l x).length ∧ (0 < x.1 → 0 < (oL l x).length) := by
  unfold oL
  by_cases c : 0 < x.1
  · rw [if_pos c, List.length_take, ins_len]; exact ⟨by omega, fun _ => by omega⟩
  · rw [if_neg c]; exact ⟨Nat.le_refl _, fun h => absurd h c⟩
theorem oLs_len : ∀ (l acc : List Pr), acc.length ≤ 10 → acc.length ≤ (l.foldl oL acc).length ∧ ((∃ x, x ∈ l ∧ 0 < x.1) → 0 < (l.foldl oL acc).length) := by
  intro l
  induction l with
  | nil => intro acc _; exact ⟨Nat.le_refl _, fun ⟨x, hx, _⟩ => absurd hx List.not_mem_nil⟩
  | cons x l IH =>
    intro acc h
    have h10 : (oL acc x).length ≤ 10 := by
      unfold oL; split
      · rw [List.length_take]; omega
      · exact h
    have h1 := oL_len acc x h
    have h2 := IH (oL acc x) h10
    rw [List.foldl_cons]
    refine ⟨by omega, fun ⟨z, hz, hp⟩ => ?_⟩
    rcases List.mem_cons.mp hz with rfl | hz
    · have := h1.2 hp; omega
    · exact h2.2 ⟨z, hz, hp⟩
theorem LST_pos {C : List Tx} (hC : VC C) {S : List (Int × Int)} (hS : VS S) : 0 < (LST C S).length := by
  unfold LST
  refine (oLs_len _ [] (Nat.zero_le _)).2 ?_
  obtain ⟨q, hq, h⟩ := wt_pos hC hS S.length (Nat.le_refl _)
  exact ⟨_, List.mem_map.mpr ⟨q, List.mem_range.mpr hq, rfl⟩, by show 0 < wt (sA0 C S) (sAA C S) S.length q; omega⟩
theorem LST_at {C : List Tx} (hC : VC C) {S : List (Int × Int)} {k : Nat} (h : k < (LST C S).length) : ∃ q, q < 5 ^ S.length ∧ gl (LST C S) k = pw (sA0 C S) (sAA C S) S.length q ∧ 0 < wt (sA0 C S) (sAA C S) S.length q := by
  obtain ⟨q, hq, e⟩ := LST_mem hC (gl_mem h)
  refine ⟨q, hq, e, ?_⟩
  have h1 : 0 < (gl (LST C S) k).1 := (Gd_foldl _ _ Gd_nil).2.2 _ (gl_mem h)
  rw [e] at h1
  exact h1
theorem prod_pos {C : List Tx} (hC : VC C) {S : List (Int × Int)} (hS : VS S) (h5 : S.length ≤ 5) : 0 < spProd C S 0 ∧ spProd C S 0 ≤ 992436543 := by
  have hn := LST_pos hC hS
  refine ⟨?_, (spProd_bd hC h5 0).2⟩
  unfold spProd
  rw [if_pos hn]
  exact (Gd_foldl _ _ Gd_nil).2.2 _ (gl_mem hn)
theorem prod_le {C : List Tx} (hC : VC C) {S : List (Int × Int)} (h5 : S.length ≤ 5) {i j : Nat} (hij : i < j) : spProd C S j ≤ spProd C S i := by
  have hb := spProd_bd hC h5 i
  by_cases h : j < (LST C S).length
  · have hs : Srt (LST C S) := (Gd_foldl _ _ Gd_nil).1
    have h1 := List.pairwise_iff_getElem.mp hs i j (by omega) h hij
    have h2 := bet_not.mp h1
    unfold spProd
    rw [if_pos h, if_pos (by omega), gl_get _ h, gl_get _ (show i < (LST C S).length by omega)]
    omega
  · have e : spProd C S j = 0 := if_neg h
    omega
theorem path_tag {C : List Tx} {S : List (Int × Int)} {k p q : Nat} (hk : k < (LST C S).length) (hp : p < S.length) (e : gl (LST C S) k = pw (sA0 C S) (sAA C S) S.length q) : spPath C S k p = ((q / 5 ^ (S.length - 1 - p) % 5 : Nat) : Int) := by
  unfold spPath
  rw [if_pos hk, e]
  show cd S.length q / 2 ^ (3 * (S.length - 1 - p)) % 2 ^ 3 = _
  rw [Int.pow_mul]
  exact cd_digit (S.length - 1 - p) S.length q (by omega)
theorem prod_at {C : List Tx} {S : List (Int × Int)} {k q : Nat} (hk : k < (LST C S).length) (e : gl (LST C S) k = pw (sA0 C S) (sAA C S) S.length q) : spProd C S k = wt (sA0 C S) (sAA C S) S.length q := by
  unfold spProd
  rw [if_pos hk, e]; rfl
theorem pos_mul {a b : Int} (ha : 0 ≤ a) (hb : 0 ≤ b) (h : 0 < a * b) : 0 < a ∧ 0 < b := by
  refine ⟨?_, ?_⟩
  · rcases Int.lt_or_eq_of_le ha with h1 | h1
    · exact h1
    · rw [← h1, Int.zero_mul] at h; omega
  · rcases Int.lt_or_eq_of_le hb with h1 | h1
    · exact h1
    · rw [← h1, Int.mul_zero] at h; omega
theorem wt_nn {a0 : Nat → Int} {aa : Nat → Nat → Nat → Int} (hB : AB a0 aa) (k x : Nat) : 0 ≤ wt a0 aa k x := (wt_bd hB k x).1
theorem fac_nn {a0 : Nat → Int} {aa : Nat → Nat → Nat → Int} (hB : AB a0 aa) (k f g : Nat) : 0 ≤ (if k = 0 then a0 g else aa k f g) := by
  split
  · exact (hB.1 g).1
  · exact (hB.2 k f g).1
theorem pos_up {a0 : Nat → Int} {aa : Nat → Nat → Nat → Int} (hB : AB a0 aa) : ∀ j k x, 0 < wt a0 aa (k + j) x → 0 < wt a0 aa k (x / 5 ^ j) := by
  intro j
  induction j with
  | zero => intro k x h; rw [Nat.pow_zero, Nat.div_one]; exact h
  | succ j IH =>
    intro k x h
    have h1 : 0 < wt a0 aa (k + j) (x / 5) * (if k + j = 0 then a0 (x % 5) else aa (k + j) (x / 5 % 5) (x % 5)) := h
    have h2 := IH k (x / 5) (pos_mul (wt_nn hB _ _) (fac_nn hB _ _ _) h1).1
    rw [Nat.div_div_eq_div_mul] at h2
    rw [show 5 ^ (j + 1) = 5 * 5 ^ j by rw [Nat.pow_succ, Nat.mul_comm]]
    exact h2
theorem mn7_nn {x : Int} (h : 0 ≤ x) : 1 ≤ mn7 x ∧ mn7 x ≤ 7 := mn7_bd h
/-- a step of a path that counts -/
theorem rk_step {C : List Tx} (hC : VC C) (S : List (Int × Int)) {n q p : Nat} (hp : p < n) (h : 0 < wt (sA0 C S) (sAA C S) n q) :
    0 < wt (sA0 C S) (sAA C S) (p + 1) (q / 5 ^ (n - 1 - p)) ∧
    wt (sA0 C S) (sAA C S) (p + 1) (q / 5 ^ (n - 1 - p)) = wt (sA0 C S) (sAA C S) p (q / 5 ^ (n - p)) * woW C (gs S p).1 (q / 5 ^ (n - 1 - p) % 5) * (if p = 0 then mn7 (sC (fsN (q / 5 ^ (n - 1 - p) % 5)) C) else mn7 (sC (prN (q / 5 ^ (n - p) % 5) (q / 5 ^ (n - 1 - p) % 5)) C)) ∧
    ((gs S p).2 = -1 ∨ (gs S p).2 = ((q / 5 ^ (n - 1 - p) % 5 : Nat) : Int)) := by
  have hB := AB_s hC S
  have e5 : q / 5 ^ (n - p) = q / 5 ^ (n - 1 - p) / 5 := by
    rw [Nat.div_div_eq_div_mul, ← Nat.pow_succ, show (n - 1 - p).succ = n - p by omega]
  have h1 : 0 < wt (sA0 C S) (sAA C S) (p + 1) (q / 5 ^ (n - 1 - p)) := pos_up hB (n - 1 - p) (p + 1) q (by rw [show p + 1 + (n - 1 - p) = n by omega]; exact h)
  rw [e5]
  generalize q / 5 ^ (n - 1 - p) = x at *
  have hx : x % 5 < 5 := Nat.mod_lt _ (by decide)
  have hx2 : x / 5 % 5 < 5 := Nat.mod_lt _ (by decide)
  have e1 : wt (sA0 C S) (sAA C S) (p + 1) x = wt (sA0 C S) (sAA C S) p (x / 5) * (if p = 0 then sA0 C S (x % 5) else sAA C S p (x / 5 % 5) (x % 5)) := rfl
  have h2 := h1
  rw [e1] at h2
  have h3 := (pos_mul (wt_nn hB _ _) (fac_nn hB _ _ _) h2).2
  have e2 : (if p = 0 then sA0 C S (x % 5) else sAA C S p (x / 5 % 5) (x % 5)) = (if p = 0 then mn7 (sC (fsN (x % 5)) C) else mn7 (sC (prN (x / 5 % 5) (x % 5)) C)) * lwF C S p (x % 5) := by
    by_cases c : p = 0
    · rw [if_pos c, if_pos c, c]; exact if_pos hx
    · rw [if_neg c, if_neg c]; exact if_pos ⟨hx2, hx⟩
  rw [e2] at h3
  have h4 : 0 ≤ (if p = 0 then mn7 (sC (fsN (x % 5)) C) else mn7 (sC (prN (x / 5 % 5) (x % 5)) C)) := by
    split
    · have := mn7_bd (fs_bd hC (x % 5)).1; omega
    · have := mn7_bd (pr_bd hC (x / 5 % 5) (x % 5)).1; omega
  have h5 := (pos_mul h4 (lwF_bd hC S p (x % 5)).1 h3).2
  have h6 : (gs S p).2 = -1 ∨ (gs S p).2 = ((x % 5 : Nat) : Int) := by
    by_cases c : (gs S p).2 = -1 ∨ (gs S p).2 = ((x % 5 : Nat) : Int)
    · exact c
    · have e3 : lwF C S p (x % 5) = 0 := if_neg c
      rw [e3] at h5; omega
  have e4 : lwF C S p (x % 5) = woW C (gs S p).1 (x % 5) := if_pos h6
  refine ⟨h1, ?_, h6⟩
  rw [e1, e2, e4, Int.mul_comm (if p = 0 then _ else _), Int.mul_assoc]
theorem woW_nat (C : List Tx) (hC : VC C) (w : Int) (g : Nat) : ∃ v : Nat, woW C w g = ((v : Nat) : Int) ∧ 1 ≤ v ∧ v ≤ 9 ∧ v % 2 = 1 := by
  have hb := foW_bd hC w g
  have h1 : 1 ≤ woW C w g ∧ woW C w g ≤ 9 ∧ woW C w g % 2 = 1 := by
    unfold woW wF facF
    generalize (foW C w).2 g = a at *
    split
    · split
      · omega
      · decide
    · split
      · split
        · omega
        · decide
      · split
        · omega
        · decide
  obtain ⟨v, hv⟩ := Int.eq_ofNat_of_zero_le (show 0 ≤ woW C w g by omega)
  exact ⟨v, hv, by omega, by omega, by omega⟩
theorem dbF_pow : ∀ (c : Nat) (w : Int), 1 ≤ w → w < 2305843009213693952 → 1152921504606846976 ≤ w * 2 ^ c → ∃ k : Nat, dbF c w = ((k : Nat) : Int) ∧ k ≤ c ∧ 1152921504606846976 ≤ w * 2 ^ k ∧ w * 2 ^ k < 2305843009213693952
  | 0, w, _, h2, h3 => ⟨0, rfl, Nat.le_refl _, h3, by rw [Int.pow_zero, Int.mul_one]; exact h2⟩
  | c + 1, w, h1, h2, h3 => by
    by_cases h : w ≤ 1152921504606846975
    · have e : (w + w) * 2 ^ c = w * 2 ^ (c + 1) := by rw [Int.pow_succ, ← Int.two_mul, Int.mul_comm 2 w, Int.mul_assoc, Int.mul_comm 2]
      obtain ⟨k, hk, hc, h4, h5⟩ := dbF_pow c (w + w) (by omega) (by omega) (by rw [e]; exact h3)
      have e2 : (w + w) * 2 ^ k = w * 2 ^ (k + 1) := by rw [Int.pow_succ, ← Int.two_mul, Int.mul_comm 2 w, Int.mul_assoc, Int.mul_comm 2]
      refine ⟨k + 1, ?_, by omega, by rw [← e2]; exact h4, by rw [← e2]; exact h5⟩
      show (if w ≤ 1152921504606846975 then 1 + dbF c (w + w) else 0) = _
      rw [if_pos h, hk]; omega
    · refine ⟨0, if_neg h, Nat.zero_le _, ?_, ?_⟩
      · rw [Int.pow_zero, Int.mul_one]; omega
      · rw [Int.pow_zero, Int.mul_one]; exact h2
theorem p2_29 : ∀ c, c < 30 → (2 : Int) ^ c ≤ 536870912 := by decide
theorem cost_of {P : Int} (h1 : 0 < P) (h2 : P ≤ 992436543) : ∃ c : Nat, dbF 60 P = ((c : Nat) : Int) ∧ 30 ≤ c ∧ c ≤ 60 ∧ (1152921504606846976 ≤ P * 2 ^ c ∧ P * 2 ^ c < 2305843009213693952) := by
  obtain ⟨c, e, h3, h4, h5⟩ := dbF_pow 60 P (by omega) (by omega) (by omega)
  refine ⟨c, e, ?_, h3, h4, h5⟩
  by_cases h : c < 30
  · have h6 := p2_29 c h
    have h7 : P * 2 ^ c ≤ P * 536870912 := Int.mul_le_mul_of_nonneg_left h6 (by omega)
    omega
  · omega
/-! shares -/
theorem PS_lock {C : List Tx} (hC : VC C) {S : List (Int × Int)} {p g : Nat} (hp : p < S.length) (h1 : (gs S p).2 ≠ -1) (h2 : (gs S p).2 ≠ ((g : Nat) : Int)) : PS (sA0 C S) (sAA C S) S.length (S.length - 1 - p) g = 0 := by
  have hB := AB_s hC S
  have h := sumR_bd (f := fun q => if q / 5 ^ (S.length - 1 - p) % 5 = g then wt (sA0 C S) (sAA C S) S.length q else 0) (b := 0) (5 ^ S.length) (fun q hq => by
    by_cases c : q / 5 ^ (S.length - 1 - p) % 5 = g
    · rw [if_pos c]
      have h3 := wt_nn hB S.length q
      refine ⟨h3, ?_⟩
      by_cases h4 : 0 < wt (sA0 C S) (sAA C S) S.length q
      · have h5 := (rk_step hC S hp h4).2.2
        rw [c] at h5
        rcases h5 with h5 | h5
        · exact absurd h5 h1
        · exact absurd h5 h2
      · omega
    · rw [if_neg c]; exact ⟨Int.le_refl 0, Int.le_refl 0⟩)
  unfold PS
  rw [Int.mul_zero] at h
  omega
theorem share_bd {C : List Tx} (hC : VC C) {S : List (Int × Int)} (hS : VS S) (h5 : S.length ≤ 5) (p g : Nat) : 0 ≤ spShare C S p g ∧ spShare C S p g ≤ 1000 := by
  have h1 := PS_bd (AB_s hC S) h5 (S.length - 1 - p) g
  have h2 := TOT_pos hC hS
  have h3 : sumR (5 ^ S.length) (wt (sA0 C S) (sAA C S) S.length) = TOT C S := rfl
  rw [h3] at h1
  unfold spShare
  generalize PS (sA0 C S) (sAA C S) S.length (S.length - 1 - p) g = P at *
  generalize TOT C S = T at *
  rw [Int.tdiv_eq_ediv_of_nonneg (by omega)]
  have h4 : 0 ≤ 1000 * P / T := Int.ediv_nonneg (by omega) (by omega)
  have h5 : 1000 * P / T ≤ 1000 := Int.ediv_le_of_le_mul h2 (by omega)
  exact ⟨h4, h5⟩
theorem S5_eq (C : List Tx) (S : List (Int × Int)) (c : Nat) : PS (sA0 C S) (sAA C S) S.length c 0 + PS (sA0 C S) (sAA C S) S.length c 1 + PS (sA0 C S) (sAA C S) S.length c 2 + PS (sA0 C S) (sAA C S) S.length c 3 + PS (sA0 C S) (sAA C S) S.length c 4 = TOT C S := PS_all (a0 := sA0 C S) (aa := sAA C S) S.length c
theorem share_lock {C : List Tx} (hC : VC C) {S : List (Int × Int)} (hS : VS S) {p g : Nat} (hp : p < S.length) (hg : g < 5) (h0 : 0 ≤ (gs S p).2) : spShare C S p g = (if (gs S p).2 = ((g : Nat) : Int) then 1000 else 0) := by
  have hT := TOT_pos hC hS
  by_cases c : (gs S p).2 = ((g : Nat) : Int)
  · rw [if_pos c]
    have hz : ∀ f : Nat, f ≠ g → PS (sA0 C S) (sAA C S) S.length (S.length - 1 - p) f = 0 := fun f hf => PS_lock hC hp (by omega) (by omega)
    have hs := S5_eq C S (S.length - 1 - p)
    have e : PS (sA0 C S) (sAA C S) S.length (S.length - 1 - p) g = TOT C S := by
      rcases (show g = 0 ∨ g = 1 ∨ g = 2 ∨ g = 3 ∨ g = 4 by omega) with rfl | rfl | rfl | rfl | rfl
      · rw [hz 1 (by decide), hz 2 (by decide), hz 3 (by decide), hz 4 (by decide)] at hs; omega
      · rw [hz 0 (by decide), hz 2 (by decide), hz 3 (by decide), hz 4 (by decide)] at hs; omega
      · rw [hz 0 (by decide), hz 1 (by decide), hz 3 (by decide), hz 4 (by decide)] at hs; omega
      · rw [hz 0 (by decide), hz 1 (by decide), hz 2 (by decide), hz 4 (by decide)] at hs; omega
      · rw [hz 0 (by decide), hz 1 (by decide), hz 2 (by decide), hz 3 (by decide)] at hs; omega
    unfold spShare
    rw [e, Int.tdiv_eq_ediv_of_nonneg (by omega)]
    exact Int.mul_ediv_cancel _ (by omega)
  · rw [if_neg c]
    unfold spShare
    rw [PS_lock hC hp (by omega) c, Int.mul_zero, Int.zero_tdiv]
def shS (C : List Tx) (S : List (Int × Int)) (p : Nat) : Nat → Int
  | 0 => 0
  | g + 1 => shS C S p g + spShare C S p g
theorem shS_bd {C : List Tx} (hC : VC C) {S : List (Int × Int)} (hS : VS S) (h5 : S.length ≤ 5) (p : Nat) : ∀ g, 0 ≤ shS C S p g ∧ shS C S p g ≤ 1000 * (g : Int)
  | 0 => ⟨Int.le_refl 0, Int.le_refl 0⟩
  | g + 1 => by
    have h1 := shS_bd hC hS h5 p g
    have h2 := share_bd hC hS h5 p g
    show 0 ≤ shS C S p g + spShare C S p g ∧ shS C S p g + spShare C S p g ≤ 1000 * ((g + 1 : Nat) : Int)
    omega
theorem thou_bd {P T : Int} (hP : 0 ≤ P) (hT : 0 < T) : T * (1000 * P / T) ≤ 1000 * P ∧ 1000 * P < T * (1000 * P / T) + T := by
  have h1 := Int.mul_ediv_add_emod (1000 * P) T
  have h2 := Int.emod_nonneg (1000 * P) (show T ≠ 0 by omega)
  have h3 := Int.emod_lt_of_pos (1000 * P) hT
  omega
theorem share_sum {C : List Tx} (hC : VC C) {S : List (Int × Int)} (hS : VS S) (h5 : S.length ≤ 5) (p : Nat) : 995 < shS C S p 5 ∧ shS C S p 5 ≤ 1000 := by
  have hT := TOT_pos hC hS
  have hs := S5_eq C S (S.length - 1 - p)
  have hb : ∀ g, 0 ≤ PS (sA0 C S) (sAA C S) S.length (S.length - 1 - p) g := fun g => (PS_bd (AB_s hC S) h5 (S.length - 1 - p) g).1
  have hx : ∀ g, spShare C S p g = 1000 * PS (sA0 C S) (sAA C S) S.length (S.length - 1 - p) g / TOT C S := fun g => by
    have := hb g
    unfold spShare
    rw [Int.tdiv_eq_ediv_of_nonneg (by omega)]
  have e : shS C S p 5 = 0 + spShare C S p 0 + spShare C S p 1 + spShare C S p 2 + spShare C S p 3 + spShare C S p 4 := rfl
  rw [e, hx 0, hx 1, hx 2, hx 3, hx 4]
  have t0 := thou_bd (hb 0) hT
  have t1 := thou_bd (hb 1) hT
  have t2 := thou_bd (hb 2) hT
  have t3 := thou_bd (hb 3) hT
  have t4 := thou_bd (hb 4) hT
  generalize PS (sA0 C S) (sAA C S) S.length (S.length - 1 - p) 0 = P0 at *
  generalize PS (sA0 C S) (sAA C S) S.length (S.length - 1 - p) 1 = P1 at *
  generalize PS (sA0 C S) (sAA C S) S.length (S.length - 1 - p) 2 = P2 at *
  generalize PS (sA0 C S) (sAA C S) S.length (S.length - 1 - p) 3 = P3 at *
  generalize PS (sA0 C S) (sAA C S) S.length (S.length - 1 - p) 4 = P4 at *
  generalize TOT C S = T at *
  generalize 1000 * P0 / T = x0 at *
  generalize 1000 * P1 / T = x1 at *
  generalize 1000 * P2 / T = x2 at *
  generalize 1000 * P3 / T = x3 at *
  generalize 1000 * P4 / T = x4 at *
  have eX : T * (0 + x0 + x1 + x2 + x3 + x4) = T * x0 + T * x1 + T * x2 + T * x3 + T * x4 := by
    rw [Int.zero_add, Int.mul_add, Int.mul_add, Int.mul_add, Int.mul_add]
  have h1 : T * 995 < T * (0 + x0 + x1 + x2 + x3 + x4) := by rw [eX]; omega
  have h2 : T * (0 + x0 + x1 + x2 + x3 + x4) ≤ T * 1000 := by rw [eX]; omega
  exact ⟨Int.lt_of_mul_lt_mul_left h1 (by omega), Int.le_of_mul_le_mul_left h2 hT⟩
