/-! ===== the arcs of the lattice, from the texts and the sentence ===== -/
def lwF (C : List Tx) (S : List (Int × Int)) (i k : Nat) : Int := if (gs S i).2 = -1 ∨ (gs S i).2 = (k : Int) then wF (facF (foW C (gs S i).1).1) ((foW C (gs S i).1).2 k) else 0
def sA0 (C : List Tx) (S : List (Int × Int)) (g : Nat) : Int := if g < 5 then mn7 (sC (fsN g) C) * lwF C S 0 g else 0
def sAA (C : List Tx) (S : List (Int × Int)) (p f g : Nat) : Int := if f < 5 ∧ g < 5 then mn7 (sC (prN f g) C) * lwF C S p g else 0
def mA0 (m : mMM) (g : Nat) : Int := if g < 5 then m 86 g * m 80 g else 0
def mAA (m : mMM) (p f g : Nat) : Int := if p < 5 ∧ f < 5 ∧ g < 5 then m (86 + (f + 1)) g * m (80 + p) g else 0
def VC (C : List Tx) : Prop := C.length ≤ 20 ∧ ∀ x, x ∈ C → 0 < x.1.length ∧ x.1.length ≤ 6 ∧ WT x.1
def VS (S : List (Int × Int)) : Prop := ∀ x, x ∈ S → 0 ≤ x.1 ∧ x.1 < 2147483648 ∧ -1 ≤ x.2 ∧ x.2 < 5
theorem cnt_bd (w : Int) : ∀ (l : List (Int × Nat)) (s : Int × (Nat → Int)) (b : Int), 0 ≤ b → (∀ k, 0 ≤ s.2 k ∧ s.2 k ≤ b) → ∀ k, 0 ≤ (l.foldl (cnt w) s).2 k ∧ (l.foldl (cnt w) s).2 k ≤ b + (l.length : Int) := by
  intro l
  induction l with
  | nil => intro s b hb h k; have := h k; exact ⟨this.1, by show s.2 k ≤ b + ((0 : Nat) : Int); omega⟩
  | cons x l IH =>
    intro s b hb h k
    have h1 : ∀ k, 0 ≤ (cnt w s x).2 k ∧ (cnt w s x).2 k ≤ b + 1 := by
      intro k
      have hk := h k
      unfold cnt
      split
      · show 0 ≤ (if k = x.2 then (1 : Int) else 0) ∧ (if k = x.2 then (1 : Int) else 0) ≤ b + 1
        split <;> omega
      · split
        · show 0 ≤ (if k = x.2 then s.2 k + 1 else s.2 k) ∧ (if k = x.2 then s.2 k + 1 else s.2 k) ≤ b + 1
          split <;> omega
        · omega
    have h2 := IH (cnt w s x) (b + 1) (by omega) h1 k
    rw [List.foldl_cons]
    have e : ((x :: l).length : Int) = (l.length : Int) + 1 := by rw [List.length_cons]; omega
    rw [e]; omega
theorem cntC_bd (w : Int) : ∀ (C : List Tx) (s : Int × (Nat → Int)) (b : Int), 0 ≤ b → (∀ x, x ∈ C → x.1.length ≤ 6) → (∀ k, 0 ≤ s.2 k ∧ s.2 k ≤ b) → ∀ k, 0 ≤ (C.foldl (cntC w) s).2 k ∧ (C.foldl (cntC w) s).2 k ≤ b + 6 * (C.length : Int) := by
  intro C
  induction C with
  | nil => intro s b hb _ h k; have := h k; exact ⟨this.1, by show s.2 k ≤ b + 6 * ((0 : Nat) : Int); omega⟩
  | cons x C IH =>
    intro s b hb h6 h k
    have hx := h6 x List.mem_cons_self
    have h1 : ∀ k, 0 ≤ (cntC w s x).2 k ∧ (cntC w s x).2 k ≤ b + 6 := by
      intro k
      unfold cntC
      split
      · have := cnt_bd w x.1 s b hb h k; omega
      · have := h k; omega
    have h2 := IH (cntC w s x) (b + 6) (by omega) (fun y hy => h6 y (List.mem_cons_of_mem _ hy)) h1 k
    rw [List.foldl_cons]
    have e : ((x :: C).length : Int) = (C.length : Int) + 1 := by rw [List.length_cons]; omega
    rw [e]; omega
theorem foW_bd {C : List Tx} (hC : VC C) (w : Int) (k : Nat) : 0 ≤ (foW C w).2 k ∧ (foW C w).2 k ≤ 120 := by
  have h := cntC_bd w C (0, fun _ => 0) 0 (Int.le_refl 0) (fun x hx => (hC.2 x hx).2.1) (fun _ => ⟨Int.le_refl 0, Int.le_refl 0⟩) k
  have h20 := hC.1
  unfold foW; omega
theorem wF_bd {fa x : Int} (h : 0 ≤ fa) (hx : 0 ≤ x) : 1 ≤ wF fa x ∧ wF fa x ≤ 9 := by
  have := Int.mul_nonneg h hx
  unfold wF; split <;> omega
theorem mn7_bd {x : Int} (hx : 0 ≤ x) : 1 ≤ mn7 x ∧ mn7 x ≤ 7 := by unfold mn7; split <;> omega
theorem fs_bd {C : List Tx} (hC : VC C) (h : Nat) : 0 ≤ sC (fsN h) C ∧ sC (fsN h) C ≤ 20 := by
  have h1 := sC_bd (fsN h) 1 (by decide) C (fun x _ => by unfold fsN; split <;> omega)
  have := hC.1; omega
theorem pr_bd {C : List Tx} (hC : VC C) (g h : Nat) : 0 ≤ sC (prN g h) C ∧ sC (prN g h) C ≤ 100 := by
  have h1 := sC_bd (prN g h) 5 (by decide) C (fun x hx => by
    have h2 := prF_bd x.1 g h (x.1.length - 1) 1
    have h3 := (hC.2 x hx).2.1
    unfold prN; omega)
  have := hC.1; omega
theorem lwF_bd {C : List Tx} (hC : VC C) (S : List (Int × Int)) (i k : Nat) : 0 ≤ lwF C S i k ∧ lwF C S i k ≤ 9 := by
  have h := wF_bd (facF_bd (foW C (gs S i).1).1).1 (foW_bd hC (gs S i).1 k).1
  unfold lwF; split <;> omega
theorem mul_63 {a b : Int} (h1 : 0 ≤ a) (h2 : a ≤ 7) (h3 : 0 ≤ b) (h4 : b ≤ 9) : 0 ≤ a * b ∧ a * b ≤ 63 :=
  ⟨Int.mul_nonneg h1 h3, Int.mul_le_mul h2 h4 h3 (by decide)⟩
theorem AB_m {m : mMM} (h1 : LB9 m) (h2 : ∀ r, r < 6 → ∀ k, k < 5 → 0 ≤ m (86 + r) k ∧ m (86 + r) k ≤ 7) : AB (mA0 m) (mAA m) := by
  refine ⟨fun g => ?_, fun p f g => ?_⟩
  · unfold mA0; split
    · have a := h2 0 (by omega) g (by omega); have b := h1 0 (by omega) g (by omega)
      exact mul_63 a.1 a.2 b.1 b.2
    · omega
  · unfold mAA; split
    · have a := h2 (f + 1) (by omega) g (by omega); have b := h1 p (by omega) g (by omega)
      exact mul_63 a.1 a.2 b.1 b.2
    · omega
theorem ARC_m (m : mMM) : ARC m (mA0 m) (mAA m) := ⟨fun g hg => if_pos hg, fun p hp f hf g hg => if_pos ⟨hp, hf, hg⟩⟩
theorem wt_congr {a0 b0 : Nat → Int} {aa bb : Nat → Nat → Nat → Int} {n : Nat} (h0 : 0 < n → ∀ g, g < 5 → a0 g = b0 g) (h1 : ∀ p, 0 < p → p < n → ∀ f, f < 5 → ∀ g, g < 5 → aa p f g = bb p f g) : ∀ k q, k ≤ n → wt a0 aa k q = wt b0 bb k q := by
  intro k
  induction k with
  | zero => intro q _; rfl
  | succ k IH =>
    intro q hk
    show wt a0 aa k (q / 5) * (if k = 0 then a0 (q % 5) else aa k (q / 5 % 5) (q % 5)) = wt b0 bb k (q / 5) * (if k = 0 then b0 (q % 5) else bb k (q / 5 % 5) (q % 5))
    rw [IH (q / 5) (by omega)]
    congr 1
    by_cases c : k = 0
    · rw [if_pos c, if_pos c]; exact h0 (by omega) _ (Nat.mod_lt _ (by decide))
    · rw [if_neg c, if_neg c]; exact h1 k (by omega) (by omega) _ (Nat.mod_lt _ (by decide)) _ (Nat.mod_lt _ (by decide))
theorem AB_s {C : List Tx} (hC : VC C) (S : List (Int × Int)) : AB (sA0 C S) (sAA C S) := by
  refine ⟨fun g => ?_, fun p f g => ?_⟩
  · unfold sA0; split
    · have a := mn7_bd (fs_bd hC g).1; have b := lwF_bd hC S 0 g
      exact mul_63 (by omega) a.2 b.1 b.2
    · omega
  · unfold sAA; split
    · have a := mn7_bd (pr_bd hC f g).1; have b := lwF_bd hC S p g
      exact mul_63 (by omega) a.2 b.1 b.2
    · omega
theorem SBD_of {m : mMM} {C : List Tx} {D : List (Int × Nat)} (hC : VC C) (hr : RC m C D) : SBD m := by
  obtain ⟨-, -, -, -, h5, h6⟩ := hr
  refine ⟨fun h hh => ?_, fun g hg h hh => ?_⟩
  · rw [h5 h hh]; have := fs_bd hC h; omega
  · rw [h6 g hg h hh]; have := pr_bd hC g h; show 0 ≤ sC (prN g h) C ∧ sC (prN g h) C ≤ 1000; omega
theorem SEN_of {m : mMM} {S : List (Int × Int)} (hS : VS S) (hr : RS m S) : SEN m S.length :=
  ⟨hr.1, hr.2.1, fun i hi => by
    have h := hS _ (gs_mem hi)
    rw [(hr.2.2 i hi).1, (hr.2.2 i hi).2]
    exact ⟨h.1, h.2.1, inI_of (by omega) (by omega)⟩⟩
theorem x_weighAll {L : Nat} {xs : Nat → Int32} {t : Bool × Nat × Nat} {d : Nat} {m : mMM} {C : List Tx} {D : List (Int × Nat)} {S : List (Int × Int)} (hC : VC C) (hS : VS S) (hr : RC m C D) (hs : RS m S) (hl : LB9 m) : ∃ m', Ev (PP L xs) (d + 3) 23 0 (entL 3 [vR (some 78)]) [] (HS t m) (.inl none) (HS t m') ∧ LBD m' ∧ ARC m' (mA0 m') (mAA m') ∧ AB (mA0 m') (mAA m') ∧ (∀ k q, k ≤ S.length → wt (mA0 m') (mAA m') k q = wt (sA0 C S) (sAA C S) k q) ∧ LB9 m' ∧ ∀ b k, (b < 80 ∨ 92 ≤ b) → m' b k = m b k := by
  obtain ⟨m', hE, h1, h2, h3⟩ := c_weighAll (L := L) (xs := xs) (t := t) (d := d) (fun i hi => (hC.2 _ (gc_mem hi)).2.2) (fun w k _ => ⟨(foW_bd hC w k).1, by have := (foW_bd hC w k).2; omega⟩) hr.1 (SEN_of hS hs) (SBD_of hC hr)
  have e1 : ∀ i, i < S.length → ∀ k, LW m C i k = lwF C S i k := fun i hi k => by
    unfold LW lwF; rw [(hs.2.2 i hi).1, (hs.2.2 i hi).2]
  have e2 : ∀ k, k < 5 → m' 86 k = mn7 (sC (fsN k) C) := fun k hk => by
    have h := h2 0 (by omega) k hk
    rw [show 86 + 0 = 86 from rfl] at h
    rw [h]; unfold swF; rw [if_pos rfl, hr.2.2.2.2.1 k hk]
  have e3 : ∀ f, f < 5 → ∀ k, k < 5 → m' (86 + (f + 1)) k = mn7 (sC (prN f k) C) := fun f hf k hk => by
    rw [h2 (f + 1) (by omega) k hk]; unfold swF; rw [if_neg (by omega), Nat.add_sub_cancel, hr.2.2.2.2.2 f hf k hk]
  have e4 : ∀ i, i < S.length → ∀ k, k < 5 → m' (80 + i) k = lwF C S i k := fun i hi k hk => by
    rw [h1 i (by have := hs.2.1; omega) k hk, if_pos hi, e1 i hi]
  have hL : LB9 m' := fun p hp k hk => by
    by_cases c : p < S.length
    · rw [e4 p c k hk]; exact lwF_bd hC S p k
    · rw [h1 p hp k hk, if_neg c]; exact hl p hp k hk
  have h7 : ∀ r, r < 6 → ∀ k, k < 5 → 0 ≤ m' (86 + r) k ∧ m' (86 + r) k ≤ 7 := fun r hr2 k hk => by
    cases r with
    | zero => rw [show 86 + 0 = 86 from rfl, e2 k hk]; have := mn7_bd (fs_bd hC k).1; omega
    | succ f => rw [e3 f (by omega) k hk]; have := mn7_bd (pr_bd hC f k).1; omega
  refine ⟨m', hE, ⟨fun p hp k hk => ⟨(hL p hp k hk).1, by have := (hL p hp k hk).2; omega⟩, fun r hr2 k hk => ⟨(h7 r hr2 k hk).1, by have := (h7 r hr2 k hk).2; omega⟩⟩, ARC_m m', AB_m hL h7, ?_, hL, fun b k hb => h3 b k (by omega) (by omega)⟩
  refine wt_congr (fun h0 g hg => ?_) (fun p hp0 hp f hf g hg => ?_)
  · unfold mA0 sA0; rw [if_pos hg, if_pos hg, e2 g hg, ← e4 0 h0 g hg]
  · have h5 := hs.2.1
    unfold mAA sAA; rw [if_pos ⟨by omega, hf, hg⟩, if_pos ⟨hf, hg⟩, e3 f hf g hg, e4 p hp g hg]
-- there is a path of weight 1 or more
theorem lwF_free {C : List Tx} (hC : VC C) {S : List (Int × Int)} (hS : VS S) {i : Nat} (hi : i < S.length) : ∃ g, g < 5 ∧ 1 ≤ lwF C S i g := by
  have h := hS _ (gs_mem hi)
  by_cases c : (gs S i).2 = -1
  · refine ⟨0, by omega, ?_⟩
    unfold lwF; rw [if_pos (Or.inl c)]
    exact (wF_bd (facF_bd (foW C (gs S i).1).1).1 (foW_bd hC (gs S i).1 0).1).1
  · obtain ⟨g, hg⟩ := Int.eq_ofNat_of_zero_le (show 0 ≤ (gs S i).2 by omega)
    refine ⟨g, by omega, ?_⟩
    unfold lwF; rw [if_pos (Or.inr hg)]
    exact (wF_bd (facF_bd (foW C (gs S i).1).1).1 (foW_bd hC (gs S i).1 g).1).1
theorem wt_pos {C : List Tx} (hC : VC C) {S : List (Int × Int)} (hS : VS S) : ∀ k, k ≤ S.length → ∃ q, q < 5 ^ k ∧ 1 ≤ wt (sA0 C S) (sAA C S) k q := by
  have pos : ∀ {a b : Int}, 1 ≤ a → 1 ≤ b → 1 ≤ a * b := fun {a b} h1 h2 => by
    have := Int.mul_pos (show 0 < a by omega) (show 0 < b by omega); omega
  intro k
  induction k with
  | zero => intro _; exact ⟨0, by decide, by show (1 : Int) ≤ 1; decide⟩
  | succ k IH =>
    intro hk
    obtain ⟨q, hq, h1⟩ := IH (by omega)
    obtain ⟨g, hg, h2⟩ := lwF_free hC hS (show k < S.length by omega)
    refine ⟨5 * q + g, by rw [Nat.pow_succ]; omega, ?_⟩
    cases k with
    | zero =>
      have hq0 : q = 0 := by rw [Nat.pow_zero] at hq; omega
      subst hq0
      rw [show 5 * 0 + g = g by omega, wt_one _ _ hg]
      unfold sA0; rw [if_pos hg]
      exact pos (mn7_bd (fs_bd hC g).1).1 h2
    | succ k =>
      rw [wt_ext _ _ (by omega) hg]
      refine pos h1 ?_
      unfold sAA; rw [if_pos ⟨Nat.mod_lt _ (by decide), hg⟩]
      exact pos (mn7_bd (pr_bd hC _ g).1).1 h2
/-- the sum of all weights -/
def TOT (C : List Tx) (S : List (Int × Int)) : Int := sumR (5 ^ S.length) (wt (sA0 C S) (sAA C S) S.length)
def LST (C : List Tx) (S : List (Int × Int)) : List Pr := ((List.range (5 ^ S.length)).map (pw (sA0 C S) (sAA C S) S.length)).foldl oL []
theorem TOT_pos {C : List Tx} (hC : VC C) {S : List (Int × Int)} (hS : VS S) : 0 < TOT C S := by
  obtain ⟨q, hq, h⟩ := wt_pos hC hS S.length (Nat.le_refl _)
  have := sumR_pos (f := wt (sA0 C S) (sAA C S) S.length) (5 ^ S.length) (fun q _ => (wt_bd (AB_s hC S) _ q).1) q hq
  unfold TOT; omega
