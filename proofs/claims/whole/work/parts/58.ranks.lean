/-! ===== ranks: class and model alike ===== -/
theorem cd_mono : ∀ k q r, q < r → r < 5 ^ k → cd k q < cd k r := by
  intro k
  induction k with
  | zero => intro q r h1 h2; rw [Nat.pow_zero] at h2; omega
  | succ k IH =>
    intro q r h1 h2
    rw [Nat.pow_succ] at h2
    show cd k (q / 5) * 2 ^ 3 + ((q % 5 : Nat) : Int) < cd k (r / 5) * 2 ^ 3 + ((r % 5 : Nat) : Int)
    by_cases c : q / 5 = r / 5
    · rw [c]; omega
    · have h := IH (q / 5) (r / 5) (by omega) (by omega); omega
theorem cd_lt {k q r : Nat} (hq : q < 5 ^ k) (hr : r < 5 ^ k) : cd k q < cd k r ↔ q < r := by
  constructor
  · intro h
    by_cases c : q < r
    · exact c
    · by_cases e : q = r
      · subst e; exact absurd h (Int.lt_irrefl _)
      · have := cd_mono k r q (by omega) hq; omega
  · intro h; exact cd_mono k q r h hr
theorem ins_mapP {P : Pr → Prop} {f : Pr → Pr} (hf : ∀ x y, P x → P y → bet (f x) (f y) = bet x y) {x : Pr} (hx : P x) : ∀ l : List Pr, (∀ y, y ∈ l → P y) → ins (f x) (l.map f) = (ins x l).map f
  | [], _ => rfl
  | y :: l, h => by
    have hy := h y List.mem_cons_self
    rw [List.map_cons]
    cases c : bet x y with
    | true => rw [ins_pos _ c, ins_pos _ (by rw [hf x y hx hy]; exact c)]; rfl
    | false => rw [ins_neg _ c, ins_neg _ (by rw [hf x y hx hy]; exact c), ins_mapP hf hx l (fun z hz => h z (List.mem_cons_of_mem _ hz))]; rfl
theorem oLs_mapP {P : Pr → Prop} {f : Pr → Pr} (hf : ∀ x y, P x → P y → bet (f x) (f y) = bet x y) (hp : ∀ x, (f x).1 = x.1) : ∀ (l acc : List Pr), (∀ y, y ∈ l → P y) → (∀ y, y ∈ acc → P y) → (l.map f).foldl oL (acc.map f) = (l.foldl oL acc).map f := by
  intro l
  induction l with
  | nil => intro acc _ _; rfl
  | cons x l IH =>
    intro acc h ha
    have hx := h x List.mem_cons_self
    have e : oL (acc.map f) (f x) = (oL acc x).map f := by
      unfold oL
      by_cases c : 0 < x.1
      · rw [if_pos c, if_pos (by rw [hp]; exact c), ins_mapP hf hx acc ha, List.map_take]
      · rw [if_neg c, if_neg (by rw [hp]; exact c)]
    rw [List.map_cons, List.foldl_cons, e, IH (oL acc x) (fun y hy => h y (List.mem_cons_of_mem _ hy)) (fun y hy => by
      rcases oL_mem hy with rfl | hy
      · exact hx
      · exact ha y hy), List.foldl_cons]
def phi (n : Nat) (z : Pr) : Pr := (z.1, cd n z.2.toNat)
theorem LST_map (C : List Tx) (S : List (Int × Int)) : LST C S = (LSM C S).map (phi S.length) := by
  unfold LST LSM
  have h := oLs_mapP (P := fun z => ∃ q : Nat, q < 5 ^ S.length ∧ z.2 = (q : Int)) (f := phi S.length) (fun x y hx hy => by
    obtain ⟨q, hq, e1⟩ := hx
    obtain ⟨r, hr, e2⟩ := hy
    unfold bet phi
    dsimp only
    rw [e1, e2, Int.toNat_natCast, Int.toNat_natCast]
    have e3 : (cd S.length q < cd S.length r) ↔ ((q : Int) < (r : Int)) := by rw [cd_lt hq hr]; omega
    simp only [e3]) (fun x => rfl) ((List.range (5 ^ S.length)).map (fun x => (wt (sA0 C S) (sAA C S) S.length x, (x : Int)))) [] (fun y hy => by
      obtain ⟨q, hq, rfl⟩ := List.mem_map.mp hy
      exact ⟨q, List.mem_range.mp hq, rfl⟩) (fun y hy => absurd hy List.not_mem_nil)
  rw [← h, List.map_map, List.map_nil]
  congr 1
theorem gl_map {f : Pr → Pr} (l : List Pr) {k : Nat} (h : k < l.length) : gl (l.map f) k = f (gl l k) := by
  rw [gl_get (l.map f) (by rw [List.length_map]; exact h), gl_get l h, List.getElem_map]
theorem cd_digit : ∀ j k q, j < k → cd k q / 8 ^ j % 8 = ((q / 5 ^ j % 5 : Nat) : Int) := by
  intro j
  induction j with
  | zero =>
    intro k q h
    obtain ⟨k, rfl⟩ : ∃ c, k = c + 1 := ⟨k - 1, by omega⟩
    show (cd k (q / 5) * 2 ^ 3 + ((q % 5 : Nat) : Int)) / 8 ^ 0 % 8 = _
    rw [Int.pow_zero, Int.ediv_one, Nat.pow_zero, Nat.div_one]; omega
  | succ j IH =>
    intro k q h
    obtain ⟨k, rfl⟩ : ∃ c, k = c + 1 := ⟨k - 1, by omega⟩
    have h1 := IH k (q / 5) (by omega)
    show (cd k (q / 5) * 2 ^ 3 + ((q % 5 : Nat) : Int)) / 8 ^ (j + 1) % 8 = _
    rw [show (8 : Int) ^ (j + 1) = 8 * 8 ^ j by rw [Int.pow_succ, Int.mul_comm], ← Int.ediv_ediv_of_nonneg (by decide), show (cd k (q / 5) * 2 ^ 3 + ((q % 5 : Nat) : Int)) / 8 = cd k (q / 5) by omega, h1, Nat.div_div_eq_div_mul, show 5 ^ (j + 1) = 5 * 5 ^ j by rw [Nat.pow_succ, Nat.mul_comm]]
theorem path_eq {C : List Tx} {S : List (Int × Int)} {k p : Nat} (hp : p < S.length) : spPath C S k p = spPathM C S k p := by
  unfold spPath spPathM
  have hl : (LST C S).length = (LSM C S).length := by rw [LST_map, List.length_map]
  rw [hl]
  by_cases c : k < (LSM C S).length
  · rw [if_pos c, if_pos c]
    obtain ⟨q, hq, e⟩ := LSM_mem (gl_mem c)
    rw [LST_map, gl_map _ c, e]
    show cd S.length ((q : Int).toNat) / 2 ^ (3 * (S.length - 1 - p)) % 2 ^ 3 = (((q : Int).toNat / 5 ^ (S.length - 1 - p) % 5 : Nat) : Int)
    rw [Int.toNat_natCast, Int.pow_mul]
    exact cd_digit (S.length - 1 - p) S.length q (by omega)
  · rw [if_neg c, if_neg c]
theorem prod_eq (C : List Tx) (S : List (Int × Int)) (k : Nat) : spProd C S k = spProdM C S k := by
  unfold spProd spProdM
  have hl : (LST C S).length = (LSM C S).length := by rw [LST_map, List.length_map]
  rw [hl]
  by_cases c : k < (LSM C S).length
  · rw [if_pos c, if_pos c, LST_map, gl_map _ c]; rfl
  · rw [if_neg c, if_neg c]
theorem oL_len (l : List Pr) (x : Pr) (h : l.length ≤ 10) : l.length ≤ (oL l x).length ∧ (0 < x.1 → 0 < (oL l x).length) := by
  unfold oL
  by_cases c : 0 < x.1
  · rw [if_pos c, List.length_take, ins_len]; exact ⟨by omega, fun _ => by omega⟩
  · rw [if_neg c]; exact ⟨Nat.le_refl _, fun h => absurd h c⟩
theorem oLs_len : ∀ (l acc : List Pr), acc.length ≤ 10 → acc.length ≤ (l.foldl oL acc).length ∧ ((∃ x, x ∈ l ∧ 0 < x.1) → 0 < (l.foldl oL acc).length) := by
  intro l
  induction l with
  | nil => intro acc _; exact ⟨Nat.le_refl _, fun ⟨x, hx, _⟩ => absurd hx List.not_mem_nil⟩
  | cons x l IH =>
    intro acc h
    have h10 : (oL acc x).length ≤ 10 := by
      unfold oL; split
      · rw [List.length_take]; omega
      · exact h
    have h1 := oL_len acc x h
    have h2 := IH (oL acc x) h10
    rw [List.foldl_cons]
    refine ⟨by omega, fun ⟨z, hz, hp⟩ => ?_⟩
    rcases List.mem_cons.mp hz with rfl | hz
    · have := h1.2 hp; omega
    · exact h2.2 ⟨z, hz, hp⟩
theorem prod_pos {C : List Tx} (hC : VC C) {S : List (Int × Int)} (hS : VS S) (h5 : S.length ≤ 5) : 0 < spProd C S 0 ∧ spProd C S 0 ≤ 992436543 := by
  have hn : 0 < (LST C S).length := by
    unfold LST
    refine (oLs_len _ [] (Nat.zero_le _)).2 ?_
    obtain ⟨q, hq, h⟩ := wt_pos hC hS S.length (Nat.le_refl _)
    exact ⟨_, List.mem_map.mpr ⟨q, List.mem_range.mpr hq, rfl⟩, by show 0 < wt (sA0 C S) (sAA C S) S.length q; omega⟩
  refine ⟨?_, (spProd_bd hC h5 0).2⟩
  unfold spProd
  rw [if_pos hn]
  exact (Gd_foldl _ _ Gd_nil).2.2 _ (gl_mem hn)
