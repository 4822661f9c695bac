/-! ===== the state of the class: typed word, corpus and draft, sentence ===== -/
def RT (m : mMM) (w : Int) (k : Nat) : Prop := m 2 0 = w ∧ m 2 1 = (k : Int)
def sC (P : List (Int × Nat) → Int) : List Tx → Int
  | [] => 0
  | x :: C => (if x.2 then P x.1 else 0) + sC P C
def prF (l : List (Int × Nat)) (g h : Nat) : Nat → Nat → Int
  | 0, _ => 0
  | c + 1, i => (if g = (gt l (i - 1)).2 ∧ h = (gt l i).2 then 1 else 0) + prF l g h c (i + 1)
def prN (g h : Nat) (l : List (Int × Nat)) : Int := prF l g h (l.length - 1) 1
def fsN (h : Nat) (l : List (Int × Nat)) : Int := if h = (gt l 0).2 then 1 else 0
def RC (m : mMM) (C : List Tx) (D : List (Int × Nat)) : Prop :=
  CR m C ∧ (TXR m (tx C.length) D ∧ m (tx C.length) 3 = 0) ∧ (∀ i, C.length < i → i < 21 → m (tx i) 2 = 0 ∧ m (tx i) 3 = 0) ∧ m 3 4 = sC (fun _ => 1) C ∧ (∀ h, h < 5 → m 5 h = sC (fsN h) C) ∧ SR m (fun g h => sC (prN g h) C)
def gs (S : List (Int × Int)) (k : Nat) : Int × Int := S.getD k (0, -1)
def RS (m : mMM) (S : List (Int × Int)) : Prop := m 75 2 = (S.length : Int) ∧ S.length ≤ 5 ∧ ∀ i, i < S.length → m 76 i = (gs S i).1 ∧ m 77 i = (gs S i).2
def LB9 (m : mMM) : Prop := ∀ p, p < 5 → ∀ k, k < 5 → 0 ≤ m (80 + p) k ∧ m (80 + p) k ≤ 9
theorem sC_app (P : List (Int × Nat) → Int) (x : Tx) : ∀ C : List Tx, sC P (C ++ [x]) = sC P C + (if x.2 then P x.1 else 0)
  | [] => by show (if x.2 then P x.1 else 0) + 0 = 0 + _; omega
  | y :: C => by show (if y.2 then P y.1 else 0) + sC P (C ++ [x]) = (if y.2 then P y.1 else 0) + sC P C + _; rw [sC_app P x C]; omega
theorem sC_set (P : List (Int × Nat) → Int) (b : Bool) : ∀ (C : List Tx) (i : Nat), i < C.length → sC P (C.set i ((gc C i).1, b)) = sC P C - (if (gc C i).2 then P (gc C i).1 else 0) + (if b then P (gc C i).1 else 0)
  | [], i, h => absurd h (Nat.not_lt_zero i)
  | y :: C, 0, _ => by show (if b then P y.1 else 0) + sC P C = (if y.2 then P y.1 else 0) + sC P C - (if y.2 then P y.1 else 0) + (if b then P y.1 else 0); omega
  | y :: C, i + 1, h => by
    have IH := sC_set P b C i (by simpa using h)
    show (if y.2 then P y.1 else 0) + sC P (C.set i ((gc C i).1, b)) = (if y.2 then P y.1 else 0) + sC P C - (if (gc C i).2 then P (gc C i).1 else 0) + (if b then P (gc C i).1 else 0)
    rw [IH]; omega
theorem sC_bd (P : List (Int × Nat) → Int) (b : Int) (hb : 0 ≤ b) : ∀ C : List Tx, (∀ x, x ∈ C → 0 ≤ P x.1 ∧ P x.1 ≤ b) → 0 ≤ sC P C ∧ sC P C ≤ (C.length : Int) * b
  | [], _ => ⟨Int.le_refl 0, by show (0 : Int) ≤ ((0 : Nat) : Int) * b; simp⟩
  | y :: C, h => by
    have IH := sC_bd P b hb C (fun x hx => h x (List.mem_cons_of_mem _ hx))
    have h1 := h y List.mem_cons_self
    have e : ((y :: C).length : Int) * b = (C.length : Int) * b + b := by rw [List.length_cons, Int.natCast_add, Int.add_mul]; simp
    show 0 ≤ (if y.2 then P y.1 else 0) + sC P C ∧ (if y.2 then P y.1 else 0) + sC P C ≤ _
    rw [e]; split <;> omega
theorem prF_bd (l : List (Int × Nat)) (g h : Nat) : ∀ c i, 0 ≤ prF l g h c i ∧ prF l g h c i ≤ (c : Int)
  | 0, _ => ⟨Int.le_refl 0, Int.le_refl 0⟩
  | c + 1, i => by
    have IH := prF_bd l g h c (i + 1)
    show 0 ≤ (if g = (gt l (i - 1)).2 ∧ h = (gt l i).2 then 1 else 0) + prF l g h c (i + 1) ∧ (if g = (gt l (i - 1)).2 ∧ h = (gt l i).2 then 1 else 0) + prF l g h c (i + 1) ≤ ((c + 1 : Nat) : Int)
    split <;> omega
theorem chF_eq (y : Int) (l : List (Int × Nat)) (g h : Nat) : ∀ c i s, chF y l c i s g h = s g h + y * prF l g h c i
  | 0, i, s => by show s g h = s g h + y * 0; omega
  | c + 1, i, s => by
    show chF y l c (i + 1) (stI y s (gt l (i - 1)).2 (gt l i).2) g h = s g h + y * ((if g = (gt l (i - 1)).2 ∧ h = (gt l i).2 then 1 else 0) + prF l g h c (i + 1))
    rw [chF_eq y l g h c (i + 1), Int.mul_add]
    show (if g = (gt l (i - 1)).2 ∧ h = (gt l i).2 then s g h + y else s g h) + _ = _
    split <;> simp <;> omega
theorem gc_app (C : List Tx) (x : Tx) {i : Nat} (h : i < C.length) : gc (C ++ [x]) i = gc C i := by
  unfold gc; rw [List.getD_eq_getElem?_getD, List.getElem?_append_left h, List.getD_eq_getElem?_getD]
theorem gc_last (C : List Tx) (x : Tx) : gc (C ++ [x]) C.length = x := by
  unfold gc; rw [List.getD_eq_getElem?_getD, List.getElem?_append_right (Nat.le_refl _), Nat.sub_self]; rfl
theorem gc_set (C : List Tx) (x : Tx) {i j : Nat} (hi : i < C.length) : gc (C.set i x) j = if j = i then x else gc C j := by
  unfold gc
  by_cases c : j = i
  · subst c; rw [if_pos rfl, List.getD_eq_getElem?_getD, List.getElem?_set_self hi]; rfl
  · rw [if_neg c, List.getD_eq_getElem?_getD, List.getElem?_set_ne (fun h => c h.symm), List.getD_eq_getElem?_getD]
theorem gt_app (C : List (Int × Nat)) (x : Int × Nat) {i : Nat} (h : i < C.length) : gt (C ++ [x]) i = gt C i := by
  unfold gt; rw [List.getD_eq_getElem?_getD, List.getElem?_append_left h, List.getD_eq_getElem?_getD]
theorem gt_last (C : List (Int × Nat)) (x : Int × Nat) : gt (C ++ [x]) C.length = x := by
  unfold gt; rw [List.getD_eq_getElem?_getD, List.getElem?_append_right (Nat.le_refl _), Nat.sub_self]; rfl
theorem gs_app (C : List (Int × Int)) (x : Int × Int) {i : Nat} (h : i < C.length) : gs (C ++ [x]) i = gs C i := by
  unfold gs; rw [List.getD_eq_getElem?_getD, List.getElem?_append_left h, List.getD_eq_getElem?_getD]
theorem gs_last (C : List (Int × Int)) (x : Int × Int) : gs (C ++ [x]) C.length = x := by
  unfold gs; rw [List.getD_eq_getElem?_getD, List.getElem?_append_right (Nat.le_refl _), Nat.sub_self]; rfl
theorem gs_set (C : List (Int × Int)) (x : Int × Int) {i j : Nat} (hi : i < C.length) : gs (C.set i x) j = if j = i then x else gs C j := by
  unfold gs
  by_cases c : j = i
  · subst c; rw [if_pos rfl, List.getD_eq_getElem?_getD, List.getElem?_set_self hi]; rfl
  · rw [if_neg c, List.getD_eq_getElem?_getD, List.getElem?_set_ne (fun h => c h.symm), List.getD_eq_getElem?_getD]
theorem gs_mem {S : List (Int × Int)} {i : Nat} (h : i < S.length) : gs S i ∈ S := by
  unfold gs; rw [List.getD_eq_getElem?_getD, List.getElem?_eq_getElem h]; exact List.getElem_mem h
theorem gc_mem {S : List Tx} {i : Nat} (h : i < S.length) : gc S i ∈ S := by
  rw [gc_get S h]; exact List.getElem_mem h
-- frames
theorem RT_fr {m m' : mMM} {w : Int} {k : Nat} (h : ∀ b j, b = 2 → m' b j = m b j) (hr : RT m w k) : RT m' w k := ⟨by rw [h 2 0 rfl]; exact hr.1, by rw [h 2 1 rfl]; exact hr.2⟩
theorem TXR_any {m m' : mMM} {a : Nat} {l : List (Int × Nat)} (h : ∀ b k, a ≤ b → b ≤ a + 2 → m' b k = m b k) (ht : TXR m a l) : TXR m' a l :=
  ⟨by rw [h a 2 (by omega) (by omega)]; exact ht.1, ht.2.1, fun k hk => ⟨by rw [h (a + 1) k (by omega) (by omega)]; exact (ht.2.2 k hk).1, by rw [h (a + 2) k (by omega) (by omega)]; exact (ht.2.2 k hk).2⟩⟩
theorem CR_any {m m' : mMM} {C : List Tx} (h : ∀ b k, 3 ≤ b → b ≤ 74 → m' b k = m b k) (hc : CR m C) : CR m' C :=
  ⟨by rw [h 3 3 (by omega) (by omega)]; exact hc.1, hc.2.1, fun i hi => by
    have h20 := hc.2.1
    have e : tx i = 12 + 3 * i := rfl
    exact ⟨TXR_any (fun b k h1 h2 => h b k (by omega) (by omega)) (hc.2.2 i hi).1, by rw [h (tx i) 3 (by omega) (by omega)]; exact (hc.2.2 i hi).2⟩⟩
theorem RC_fr {m m' : mMM} {C : List Tx} {D : List (Int × Nat)} (h : ∀ b k, 3 ≤ b → b ≤ 74 → m' b k = m b k) (hr : RC m C D) : RC m' C D := by
  obtain ⟨h1, h2, h3, h4, h5, h6⟩ := hr
  have h20 := h1.2.1
  have e : ∀ i, tx i = 12 + 3 * i := fun _ => rfl
  refine ⟨CR_any h h1, ⟨TXR_any (fun b k x y => h b k (by rw [e] at x; omega) (by rw [e] at y; omega)) h2.1, by rw [h _ _ (by rw [e]; omega) (by rw [e]; omega)]; exact h2.2⟩, fun i hi hi2 => ?_, ?_, fun k hk => ?_, fun g hg k hk => ?_⟩
  · rw [h (tx i) 2 (by rw [e]; omega) (by rw [e]; omega), h (tx i) 3 (by rw [e]; omega) (by rw [e]; omega)]; exact h3 i hi hi2
  · rw [h 3 4 (by omega) (by omega)]; exact h4
  · rw [h 5 k (by omega) (by omega)]; exact h5 k hk
  · rw [h (7 + g) k (by omega) (by omega)]; exact h6 g hg k hk
theorem RS_fr {m m' : mMM} {S : List (Int × Int)} (h : ∀ b k, 75 ≤ b → b ≤ 77 → m' b k = m b k) (hr : RS m S) : RS m' S :=
  ⟨by rw [h 75 2 (by omega) (by omega)]; exact hr.1, hr.2.1, fun i hi => by rw [h 76 i (by omega) (by omega), h 77 i (by omega) (by omega)]; exact hr.2.2 i hi⟩
theorem LB9_fr {m m' : mMM} (h : ∀ b k, 80 ≤ b → b ≤ 84 → m' b k = m b k) (hr : LB9 m) : LB9 m' := fun p hp k hk => by
  rw [h (80 + p) k (by omega) (by omega)]; exact hr p hp k hk
-- changes
theorem RC_tag {m : mMM} {C : List Tx} {D : List (Int × Nat)} {w : Int} {g : Nat} (hr : RC m C D) (h6 : D.length < 6) : RC (up (up (up m (tx C.length + 1) D.length w) (tx C.length + 2) D.length (g : Int)) (tx C.length) 2 ((D.length + 1 : Nat) : Int)) C (D ++ [(w, g)]) := by
  obtain ⟨h1, h2, h3, h4, h5, h7⟩ := hr
  have h20 := h1.2.1
  have e : ∀ i, tx i = 12 + 3 * i := fun _ => rfl
  have F : ∀ b k, (b < tx C.length ∨ tx C.length + 2 < b) → up (up (up m (tx C.length + 1) D.length w) (tx C.length + 2) D.length (g : Int)) (tx C.length) 2 ((D.length + 1 : Nat) : Int) b k = m b k := fun b k hb => by
    rw [up_ne1 _ _ (by omega), up_ne1 _ _ (by omega), up_ne1 _ _ (by omega)]
  refine ⟨⟨by rw [F 3 3 (by rw [e]; omega)]; exact h1.1, h20, fun i hi => ⟨TXR_any (fun b k x y => F b k (by rw [e] at x y; rw [e]; omega)) (h1.2.2 i hi).1, by rw [F (tx i) 3 (by rw [e, e]; omega)]; exact (h1.2.2 i hi).2⟩⟩, ⟨⟨?_, ?_, fun k hk => ?_⟩, ?_⟩, fun i hi hi2 => ?_, ?_, fun k hk => ?_, fun g hg k hk => ?_⟩
  · rw [up_eq, List.length_append]; rfl
  · rw [List.length_append]; show D.length + 1 ≤ 6; omega
  · rw [List.length_append] at hk
    have hk : k < D.length + 1 := hk
    rw [up_ne1 (b := tx C.length + 1) _ _ (by omega), up_ne1 (b := tx C.length + 1) _ _ (by omega), up_ne1 (b := tx C.length + 2) _ _ (by omega)]
    by_cases c : k = D.length
    · subst c; rw [up_eq, up_eq, gt_last]; exact ⟨rfl, rfl⟩
    · rw [up_ne2 _ _ c, up_ne2 _ _ c, gt_app _ _ (by omega), up_ne1 _ _ (by omega)]; exact h2.1.2.2 k (by omega)
  · rw [up_ne2 _ _ (by decide), up_ne1 _ _ (by omega), up_ne1 _ _ (by omega)]; exact h2.2
  · rw [F _ _ (by rw [e, e]; omega), F _ _ (by rw [e, e]; omega)]; exact h3 i hi hi2
  · rw [F 3 4 (by rw [e]; omega)]; exact h4
  · rw [F 5 k (by rw [e]; omega)]; exact h5 k hk
  · rw [F (7 + g) k (by rw [e]; omega)]; exact h7 g hg k hk
theorem RC_add {m m' : mMM} {C : List Tx} {D : List (Int × Nat)} (hr : RC m C D) (hn : C.length < 20) (hg0 : (gt D 0).2 < 5) (hs : SR m' (chF 1 D (D.length - 1) 1 (fun g h => sC (prN g h) C))) (hF : FRs (up (up (up (up m 3 3 ((C.length + 1 : Nat) : Int)) (tx C.length) 3 1) 3 4 (m 3 4 + 1)) 5 (gt D 0).2 (m 5 (gt D 0).2 + 1)) m') : RC m' (C ++ [(D, true)]) [] := by
  obtain ⟨h1, h2, h3, h4, h5, h7⟩ := hr
  have e : ∀ i, tx i = 12 + 3 * i := fun _ => rfl
  have F : ∀ b k, 12 ≤ b → (b ≠ tx C.length ∨ k ≠ 3) → m' b k = m b k := fun b k hb hk => by
    rw [hF b k (by omega), up_ne1 _ _ (by omega), up_ne1 _ _ (by omega)]
    rw [up_ne _ _ (by omega), up_ne1 _ _ (by omega)]
  have hl : (C ++ [(D, true)]).length = C.length + 1 := by rw [List.length_append]; rfl
  refine ⟨⟨?_, by rw [hl]; omega, fun i hi => ?_⟩, ⟨⟨?_, Nat.zero_le _, fun k hk => absurd hk (Nat.not_lt_zero k)⟩, ?_⟩, fun i hi hi2 => ?_, ?_, fun k hk => ?_, fun g hg k hk => ?_⟩
  · rw [hF 3 3 (by omega), up_ne1 _ _ (by omega), up_ne2 _ _ (by decide), up_ne1 _ _ (by rw [e]; omega), up_eq, hl]
  · rw [hl] at hi
    by_cases c : i = C.length
    · subst c
      rw [gc_last]
      refine ⟨⟨by rw [F _ _ (by rw [e]; omega) (by omega)]; exact h2.1.1, h2.1.2.1, fun k hk => ?_⟩, ?_⟩
      · rw [F _ _ (by rw [e]; omega) (by omega), F _ _ (by rw [e]; omega) (by omega)]; exact h2.1.2.2 k hk
      · rw [hF _ _ (by rw [e]; omega), up_ne1 _ _ (by rw [e]; omega), up_ne1 _ _ (by rw [e]; omega), up_eq]; rfl
    · rw [gc_app _ _ (by omega)]
      have hi' := h1.2.2 i (by omega)
      refine ⟨TXR_any (fun b k x y => F b k (by rw [e] at x; omega) (by rw [e] at x y; rw [e]; omega)) hi'.1, ?_⟩
      rw [F _ _ (by rw [e]; omega) (by rw [e, e]; omega)]; exact hi'.2
  · rw [hl, F _ _ (by rw [e]; omega) (by rw [e, e]; omega)]; exact (h3 (C.length + 1) (by omega) (by omega)).1
  · rw [hl, F _ _ (by rw [e]; omega) (by rw [e, e]; omega)]; exact (h3 (C.length + 1) (by omega) (by omega)).2
  · rw [hl] at hi
    rw [F _ _ (by rw [e]; omega) (by rw [e, e]; omega), F _ _ (by rw [e]; omega) (by rw [e, e]; omega)]; exact h3 i (by omega) hi2
  · rw [hF 3 4 (by omega), up_ne1 _ _ (by omega), up_eq, sC_app, h4]; rfl
  · rw [hF 5 k (by omega), sC_app]
    show _ = sC (fsN k) C + fsN k D
    by_cases c : k = (gt D 0).2
    · rw [← c, up_eq, h5 k hk]; unfold fsN; rw [if_pos c]
    · rw [up_ne2 _ _ c, up_ne1 _ _ (by omega), up_ne1 _ _ (by rw [e]; omega), up_ne1 _ _ (by omega), h5 k hk]; unfold fsN; rw [if_neg c]; omega
  · show m' (7 + g) k = sC (prN g k) (C ++ [(D, true)])
    rw [hs g hg k hk, chF_eq, sC_app, Int.one_mul]; rfl
theorem RC_text {m m' : mMM} {C : List Tx} {D : List (Int × Nat)} {i : Nat} (hr : RC m C D) (hi : i < C.length) (b : Bool) (hb : (gc C i).2 = !b) (hg0 : (gt (gc C i).1 0).2 < 5) (hs : SR m' (chF (if b then 1 else -1) (gc C i).1 ((gc C i).1.length - 1) 1 (fun g h => sC (prN g h) C))) (hF : FRs (up (up (up m (tx i) 3 (if b then 1 else 0)) 3 4 (m 3 4 + (if b then 1 else -1))) 5 (gt (gc C i).1 0).2 (m 5 (gt (gc C i).1 0).2 + (if b then 1 else -1))) m') : RC m' (C.set i ((gc C i).1, b)) D := by
  obtain ⟨h1, h2, h3, h4, h5, h7⟩ := hr
  have h20 := h1.2.1
  have e : ∀ i, tx i = 12 + 3 * i := fun _ => rfl
  have F : ∀ c k, 12 ≤ c → (c ≠ tx i ∨ k ≠ 3) → m' c k = m c k := fun c k hc hk => by
    rw [hF c k (by omega), up_ne1 _ _ (by omega), up_ne1 _ _ (by omega), up_ne _ _ (by omega)]
  have hl : (C.set i ((gc C i).1, b)).length = C.length := List.length_set
  have hsum : ∀ P, sC P (C.set i ((gc C i).1, b)) = sC P C + (if b then 1 else -1) * P (gc C i).1 := fun P => by
    rw [sC_set P b C i hi, hb]
    cases b <;> simp <;> omega
  refine ⟨⟨?_, by rw [hl]; omega, fun j hj => ?_⟩, ⟨?_, ?_⟩, fun j hj hj2 => ?_, ?_, fun k hk => ?_, fun g hg k hk => ?_⟩
  · rw [hF 3 3 (by omega), up_ne1 _ _ (by omega), up_ne2 _ _ (by decide), up_ne1 _ _ (by rw [e]; omega), hl]; exact h1.1
  · rw [hl] at hj
    have hj' := h1.2.2 j hj
    rw [gc_set _ _ hi]
    by_cases c : j = i
    · subst c
      rw [if_pos rfl]
      refine ⟨⟨by rw [F _ _ (by rw [e]; omega) (by omega)]; exact hj'.1.1, hj'.1.2.1, fun k hk => ?_⟩, ?_⟩
      · rw [F _ _ (by rw [e]; omega) (by omega), F _ _ (by rw [e]; omega) (by omega)]; exact hj'.1.2.2 k hk
      · rw [hF _ _ (by rw [e]; omega), up_ne1 _ _ (by rw [e]; omega), up_ne1 _ _ (by rw [e]; omega), up_eq]
    · rw [if_neg c]
      refine ⟨TXR_any (fun b k x y => F b k (by rw [e] at x; omega) (by rw [e] at x y; rw [e]; omega)) hj'.1, ?_⟩
      rw [F _ _ (by rw [e]; omega) (by rw [e, e]; omega)]; exact hj'.2
  · rw [hl]; exact TXR_any (fun b k x y => F b k (by rw [e] at x; omega) (by rw [e] at x y; rw [e]; omega)) h2.1
  · rw [hl, F _ _ (by rw [e]; omega) (by rw [e, e]; omega)]; exact h2.2
  · rw [hl] at hj
    rw [F _ _ (by rw [e]; omega) (by rw [e, e]; omega), F _ _ (by rw [e]; omega) (by rw [e, e]; omega)]; exact h3 j hj hj2
  · rw [hF 3 4 (by omega), up_ne1 _ _ (by omega), up_eq, hsum, h4, Int.mul_one]
  · rw [hF 5 k (by omega), hsum]
    by_cases c : k = (gt (gc C i).1 0).2
    · rw [← c, up_eq, h5 k hk]; unfold fsN; rw [if_pos c, Int.mul_one]
    · rw [up_ne2 _ _ c, up_ne1 _ _ (by omega), up_ne1 _ _ (by rw [e]; omega), h5 k hk]; unfold fsN; rw [if_neg c]; omega
  · show m' (7 + g) k = sC (prN g k) (C.set i ((gc C i).1, b))
    rw [hs g hg k hk, chF_eq, hsum]; rfl
