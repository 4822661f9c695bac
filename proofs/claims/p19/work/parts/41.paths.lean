/-! ===== paths by their numbers: weights, codes; what the trellis ranks ===== -/
def wt (a0 : Nat → Int) (aa : Nat → Nat → Nat → Int) : Nat → Nat → Int
  | 0, _ => 1
  | k + 1, q => wt a0 aa k (q / 5) * (if k = 0 then a0 (q % 5) else aa k (q / 5 % 5) (q % 5))
def cd : Nat → Nat → Int
  | 0, _ => 0
  | k + 1, q => cd k (q / 5) * 2 ^ 3 + ((q % 5 : Nat) : Int)
def pw (a0 : Nat → Int) (aa : Nat → Nat → Nat → Int) (k q : Nat) : Pr := (wt a0 aa k q, cd k q)
theorem wt_one (a0 : Nat → Int) (aa : Nat → Nat → Nat → Int) {g : Nat} (hg : g < 5) : wt a0 aa 1 g = a0 g := by
  show 1 * (if 0 = 0 then a0 (g % 5) else _) = a0 g
  rw [if_pos rfl, Nat.mod_eq_of_lt hg, Int.one_mul]
theorem wt_ext (a0 : Nat → Int) (aa : Nat → Nat → Nat → Int) {k x g : Nat} (hk : 0 < k) (hg : g < 5) : wt a0 aa (k + 1) (5 * x + g) = wt a0 aa k x * aa k (x % 5) g := by
  show wt a0 aa k ((5 * x + g) / 5) * (if k = 0 then a0 ((5 * x + g) % 5) else aa k ((5 * x + g) / 5 % 5) ((5 * x + g) % 5)) = _
  rw [if_neg (by omega), show (5 * x + g) / 5 = x by omega, show (5 * x + g) % 5 = g by omega]
theorem cd_ext {k x g : Nat} (hg : g < 5) : cd (k + 1) (5 * x + g) = cd k x * 2 ^ 3 + (g : Int) := by
  show cd k ((5 * x + g) / 5) * 2 ^ 3 + (((5 * x + g) % 5 : Nat) : Int) = _
  rw [show (5 * x + g) / 5 = x by omega, show (5 * x + g) % 5 = g by omega]
theorem pw_ext (a0 : Nat → Int) (aa : Nat → Nat → Nat → Int) {k x g : Nat} (hk : 0 < k) (hg : g < 5) : pw a0 aa (k + 1) (5 * x + g) = extF (aa k (x % 5) g) (g : Int) (pw a0 aa k x) := by
  unfold pw extF; rw [wt_ext a0 aa hk hg, cd_ext hg]
def c5 (N f : Nat) : List Nat := (List.range N).map (fun q => 5 * q + f)
theorem c5_succ (N f : Nat) : c5 (N + 1) f = c5 N f ++ [5 * N + f] := by
  unfold c5; rw [List.range_succ, List.map_append]; rfl
theorem range5 : ∀ N : Nat, (List.range (5 * N)).Perm (c5 N 0 ++ (c5 N 1 ++ (c5 N 2 ++ (c5 N 3 ++ c5 N 4)))) := by
  intro N
  induction N with
  | zero => exact List.Perm.refl _
  | succ N IH =>
    have e : List.range (5 * (N + 1)) = List.range (5 * N) ++ [5 * N + 0, 5 * N + 1, 5 * N + 2, 5 * N + 3, 5 * N + 4] := by
      rw [show 5 * (N + 1) = 5 * N + 1 + 1 + 1 + 1 + 1 by omega]
      rw [List.range_succ, List.range_succ, List.range_succ, List.range_succ, List.range_succ]
      simp
    rw [e, c5_succ, c5_succ, c5_succ, c5_succ, c5_succ, List.perm_iff_count]
    intro a
    have h := List.perm_iff_count.mp IH a
    simp only [List.count_append, List.count_cons, List.count_nil] at h ⊢
    omega
theorem oLs_mem {z : Pr} : ∀ {l acc : List Pr}, z ∈ l.foldl oL acc → z ∈ acc ∨ z ∈ l := by
  intro l
  induction l with
  | nil => intro acc h; exact Or.inl h
  | cons x l IH =>
    intro acc h
    rw [List.foldl_cons] at h
    rcases IH h with h | h
    · rcases oL_mem h with rfl | h
      · exact Or.inr List.mem_cons_self
      · exact Or.inl h
    · exact Or.inr (List.mem_cons_of_mem _ h)
section TRT
variable {a0 : Nat → Int} {aa : Nat → Nat → Nat → Int}
theorem TR_top (hN : ∀ p f g, 0 ≤ aa p f g) : ∀ p g, g < 5 → TR a0 aa p g = ((List.range (5 ^ p)).map (fun q => pw a0 aa (p + 1) (5 * q + g))).foldl oL [] := by
  intro p
  induction p with
  | zero =>
    intro g hg
    show oL [] (a0 g, (g : Int)) = oL [] (pw a0 aa 1 (5 * 0 + g))
    rw [show 5 * 0 + g = g by omega]
    unfold pw
    rw [wt_one a0 aa hg]
    have e : cd 1 g = (g : Int) := by
      show (0 : Int) * 2 ^ 3 + ((g % 5 : Nat) : Int) = _
      rw [Nat.mod_eq_of_lt hg]; omega
    rw [e]
  | succ p IH =>
    intro g hg
    have e1 : ∀ (f : Nat) (acc : List Pr), f < 5 → Gd acc → ((TR a0 aa p f).map (extF (aa (p + 1) f g) (g : Int))).foldl oL acc = ((c5 (5 ^ p) f).map (fun x => pw a0 aa (p + 1 + 1) (5 * x + g))).foldl oL acc := by
      intro f acc hf hac
      rw [IH f hf, oL_ext (hN _ _ _) _ hac, List.map_map, c5, List.map_map]
      congr 1
      apply List.map_congr_left
      intro q _
      show extF (aa (p + 1) f g) (g : Int) (pw a0 aa (p + 1) (5 * q + f)) = pw a0 aa (p + 1 + 1) (5 * (5 * q + f) + g)
      rw [pw_ext a0 aa (by omega) hg, show (5 * q + f) % 5 = f by omega]
    have hG : ∀ (l acc : List Pr), Gd acc → Gd (l.foldl oL acc) := fun l acc h => Gd_foldl l acc h
    show ((TR a0 aa p 4).map (extF (aa (p + 1) 4 g) (g : Int))).foldl oL (((TR a0 aa p 3).map (extF (aa (p + 1) 3 g) (g : Int))).foldl oL (((TR a0 aa p 2).map (extF (aa (p + 1) 2 g) (g : Int))).foldl oL (((TR a0 aa p 1).map (extF (aa (p + 1) 1 g) (g : Int))).foldl oL (((TR a0 aa p 0).map (extF (aa (p + 1) 0 g) (g : Int))).foldl oL [])))) = _
    rw [e1 0 _ (by omega) Gd_nil, e1 1 _ (by omega) (hG _ _ Gd_nil), e1 2 _ (by omega) (hG _ _ (hG _ _ Gd_nil)), e1 3 _ (by omega) (hG _ _ (hG _ _ (hG _ _ Gd_nil))), e1 4 _ (by omega) (hG _ _ (hG _ _ (hG _ _ (hG _ _ Gd_nil))))]
    rw [← List.foldl_append, ← List.foldl_append, ← List.foldl_append, ← List.foldl_append, ← List.map_append, ← List.map_append, ← List.map_append, ← List.map_append]
    rw [show 5 ^ (p + 1) = 5 * 5 ^ p by rw [Nat.pow_succ, Nat.mul_comm]]
    refine oL_perm (List.Perm.map _ ?_) []
    refine List.Perm.trans ?_ (range5 (5 ^ p)).symm
    exact List.Perm.refl _
theorem all_top (hN : ∀ p f g, 0 ≤ aa p f g) (n : Nat) : allF (TR a0 aa n) 5 0 [] = ((List.range (5 ^ (n + 1))).map (pw a0 aa (n + 1))).foldl oL [] := by
  have e1 : ∀ (f : Nat) (acc : List Pr), f < 5 → Gd acc → (TR a0 aa n f).foldl oL acc = ((c5 (5 ^ n) f).map (pw a0 aa (n + 1))).foldl oL acc := by
    intro f acc hf hac
    rw [TR_top hN n f hf, oL_top _ [] acc hac Gd_nil, c5, List.map_map]
    rfl
  have hG : ∀ (l acc : List Pr), Gd acc → Gd (l.foldl oL acc) := fun l acc h => Gd_foldl l acc h
  show (TR a0 aa n 4).foldl oL ((TR a0 aa n 3).foldl oL ((TR a0 aa n 2).foldl oL ((TR a0 aa n 1).foldl oL ((TR a0 aa n 0).foldl oL [])))) = _
  rw [e1 0 _ (by omega) Gd_nil, e1 1 _ (by omega) (hG _ _ Gd_nil), e1 2 _ (by omega) (hG _ _ (hG _ _ Gd_nil)), e1 3 _ (by omega) (hG _ _ (hG _ _ (hG _ _ Gd_nil))), e1 4 _ (by omega) (hG _ _ (hG _ _ (hG _ _ (hG _ _ Gd_nil))))]
  rw [← List.foldl_append, ← List.foldl_append, ← List.foldl_append, ← List.foldl_append, ← List.map_append, ← List.map_append, ← List.map_append, ← List.map_append]
  rw [show 5 ^ (n + 1) = 5 * 5 ^ n by rw [Nat.pow_succ, Nat.mul_comm]]
  refine oL_perm (List.Perm.map _ ?_) []
  refine List.Perm.trans ?_ (range5 (5 ^ n)).symm
  exact List.Perm.refl _
/-- what weights of steps and words are: 0 to 63 -/
def AB (a0 : Nat → Int) (aa : Nat → Nat → Nat → Int) : Prop := (∀ g, 0 ≤ a0 g ∧ a0 g ≤ 63) ∧ ∀ p f g, 0 ≤ aa p f g ∧ aa p f g ≤ 63
theorem wt_bd (hB : AB a0 aa) : ∀ k q, 0 ≤ wt a0 aa k q ∧ wt a0 aa k q ≤ 63 ^ k := by
  intro k
  induction k with
  | zero => intro q; exact ⟨by show (0 : Int) ≤ 1; decide, by show (1 : Int) ≤ 63 ^ 0; decide⟩
  | succ k IH =>
    intro q
    have h := IH (q / 5)
    have hx : 0 ≤ (if k = 0 then a0 (q % 5) else aa k (q / 5 % 5) (q % 5)) ∧ (if k = 0 then a0 (q % 5) else aa k (q / 5 % 5) (q % 5)) ≤ 63 := by
      split
      · exact hB.1 _
      · exact hB.2 _ _ _
    show 0 ≤ wt a0 aa k (q / 5) * _ ∧ wt a0 aa k (q / 5) * _ ≤ 63 ^ (k + 1)
    refine ⟨Int.mul_nonneg h.1 hx.1, ?_⟩
    rw [Int.pow_succ]
    exact Int.mul_le_mul h.2 hx.2 hx.1 (Int.pow_nonneg (by decide))
theorem cd_bd : ∀ k q, 0 ≤ cd k q ∧ cd k q < 8 ^ k := by
  intro k
  induction k with
  | zero => intro q; exact ⟨by show (0 : Int) ≤ 0; decide, by show (0 : Int) < 8 ^ 0; decide⟩
  | succ k IH =>
    intro q
    have h := IH (q / 5)
    show 0 ≤ cd k (q / 5) * 2 ^ 3 + ((q % 5 : Nat) : Int) ∧ cd k (q / 5) * 2 ^ 3 + ((q % 5 : Nat) : Int) < 8 ^ (k + 1)
    rw [Int.pow_succ]
    omega
theorem p63 : ∀ k, k ≤ 5 → (63 : Int) ^ k ≤ 992436543 := by decide
theorem p8 : ∀ k, k ≤ 5 → (8 : Int) ^ k ≤ 32768 := by decide
theorem wt_bd5 (hB : AB a0 aa) {k : Nat} (hk : k ≤ 5) (q : Nat) : 0 ≤ wt a0 aa k q ∧ wt a0 aa k q ≤ 992436543 :=
  ⟨(wt_bd hB k q).1, Int.le_trans (wt_bd hB k q).2 (p63 k hk)⟩
theorem cd_bd5 {k : Nat} (hk : k ≤ 5) (q : Nat) : 0 ≤ cd k q ∧ cd k q < 32768 :=
  ⟨(cd_bd k q).1, Int.lt_of_lt_of_le (cd_bd k q).2 (p8 k hk)⟩
theorem TR_mem (hB : AB a0 aa) {p g : Nat} (hg : g < 5) {x : Pr} (hx : x ∈ TR a0 aa p g) : ∃ q, x = pw a0 aa (p + 1) q := by
  rw [TR_top (fun p f g => (hB.2 p f g).1) p g hg] at hx
  rcases oLs_mem hx with h | h
  · exact absurd h List.not_mem_nil
  · obtain ⟨q, -, rfl⟩ := List.mem_map.mp h
    exact ⟨_, rfl⟩
theorem TRB_of (hB : AB a0 aa) {n : Nat} (hn : n ≤ 5) : TRB a0 aa n := by
  refine ⟨fun g _ => inJ_of (by have := hB.1 g; omega) (by have := hB.1 g; omega), fun p hp f hf x hx g _ => ?_⟩
  obtain ⟨q, rfl⟩ := TR_mem hB hf hx
  have h1 := wt_bd5 hB (show p + 1 ≤ 5 by omega) q
  have h2 := hB.2 (p + 1) f g
  have h3 := cd_bd5 (show p + 1 ≤ 5 by omega) q
  have h4 : 0 ≤ wt a0 aa (p + 1) q * aa (p + 1) f g := Int.mul_nonneg h1.1 h2.1
  have h5 : wt a0 aa (p + 1) q * aa (p + 1) f g ≤ 992436543 * 63 := Int.mul_le_mul h1.2 h2.2 h2.1 (by decide)
  refine ⟨inJ_of ?_ ?_, h3.1, ?_⟩
  · show _ ≤ wt a0 aa (p + 1) q * aa (p + 1) f g; omega
  · show wt a0 aa (p + 1) q * aa (p + 1) f g < _; omega
  · show cd (p + 1) q < _; omega
theorem TR_BD (hB : AB a0 aa) {p g : Nat} (hp : p < 5) (hg : g < 5) : BD (TR a0 aa p g) := by
  intro x hx
  obtain ⟨q, rfl⟩ := TR_mem hB hg hx
  have h1 := wt_bd5 hB (show p + 1 ≤ 5 by omega) q
  have h3 := cd_bd5 (show p + 1 ≤ 5 by omega) q
  exact ⟨inJ_of (by show _ ≤ wt a0 aa (p + 1) q; omega) (by show wt a0 aa (p + 1) q < _; omega), inI_of (by show _ ≤ cd (p + 1) q; omega) (by show cd (p + 1) q < _; omega)⟩
end TRT
