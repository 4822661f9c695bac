/-! ===== the model: how often, weights of words ===== -/
/-- a word to the base 32 as one to the base 27 -/
def cv (w : Int) : Int := w % 32 + 27 * (w / 32 % 32) + 729 * (w / 1024 % 32) + 19683 * (w / 32768 % 32) + 531441 * (w / 1048576 % 32) + 14348907 * (w / 33554432 % 32)
theorem cv_bd (w : Int) : 0 ≤ cv w ∧ cv w < 2147483648 := by unfold cv; omega
theorem cv_in (w : Int) : inI (cv w) = true := inI_of (by have := cv_bd w; omega) (cv_bd w).2
def MCR (m : mMM) (C : List Tx) : Prop := m 190 10 = (C.length : Int) ∧ C.length ≤ 20 ∧ ∀ i, i < C.length → (m 195 i = ((gc C i).1.length : Int) ∧ (gc C i).1.length ≤ 6 ∧ m 196 i = (if (gc C i).2 then 1 else 0)) ∧ ∀ j, j < (gc C i).1.length → m 193 (6 * i + j) = cv (gt (gc C i).1 j).1 ∧ m 194 (6 * i + j) = ((gt (gc C i).1 j).2 : Int)
def oI (v y g : Int) (x : Int × Nat) : Int := if (cv x.1).tmod y = v.tmod y ∧ (g = -1 ∨ (x.2 : Int) = g) then 1 else 0
def oS (f : Int × Nat → Int) : List (Int × Nat) → Int
  | [] => 0
  | x :: l => f x + oS f l
def oft (C : List Tx) (v y g : Int) : Int := sC (oS (oI v y g)) C
theorem oS_bd (f : Int × Nat → Int) (hf : ∀ x, 0 ≤ f x ∧ f x ≤ 1) : ∀ l, 0 ≤ oS f l ∧ oS f l ≤ (l.length : Int)
  | [] => ⟨Int.le_refl 0, Int.le_refl 0⟩
  | x :: l => by
    have IH := oS_bd f hf l
    have h := hf x
    have e : ((x :: l).length : Int) = (l.length : Int) + 1 := by rw [List.length_cons]; omega
    show 0 ≤ f x + oS f l ∧ f x + oS f l ≤ _
    rw [e]; omega
theorem oI_bd (v y g : Int) (x : Int × Nat) : 0 ≤ oI v y g x ∧ oI v y g x ≤ 1 := by unfold oI; split <;> omega
theorem oft_bd {C : List Tx} (h20 : C.length ≤ 20) (h6 : ∀ x, x ∈ C → x.1.length ≤ 6) (v y g : Int) : 0 ≤ oft C v y g ∧ oft C v y g ≤ 120 := by
  have h := sC_bd (oS (oI v y g)) 6 (by decide) C (fun x hx => by have := oS_bd (oI v y g) (oI_bd v y g) x.1; have := h6 x hx; omega)
  unfold oft; omega
theorem MCR_bd {m : mMM} {C : List Tx} (h : MCR m C) (v y g : Int) : 0 ≤ oft C v y g ∧ oft C v y g ≤ 120 :=
  oft_bd h.2.1 (fun x hx => by
    obtain ⟨i, hi, rfl⟩ := List.mem_iff_getElem.mp hx
    have := (h.2.2 i hi).1.2.1
    rw [gc_get C hi] at this; exact this) v y g
theorem tm_in {x y : Int} (h0 : 0 ≤ x) (hx : x < 2147483648) (hy : 0 < y) : inI (x.tmod y) = true := by
  have h1 := Int.tmod_nonneg y h0
  have h2 : x.tmod y ≤ x := by
    rw [Int.tmod_eq_emod_of_nonneg h0]
    have h3 := Int.mul_ediv_add_emod x y
    have h4 : 0 ≤ y * (x / y) := Int.mul_nonneg (by omega) (Int.ediv_nonneg h0 (by omega))
    omega
  exact inI_of (by omega) (by omega)
def am9 (x : Int) : Int := if 9 < x then 9 else x
def wfF (C : List Tx) (v g : Int) : Int := if 0 < oft C v 387420489 (-1) then am9 (4 * oft C v 387420489 g + 1) else if 19683 ≤ v * 27 ∧ 0 < oft C v 19683 (-1) then am9 (2 * oft C v 19683 g + 1) else if 729 ≤ v * 27 ∧ 0 < oft C v 729 (-1) then am9 (2 * oft C v 729 g + 1) else if 27 ≤ v * 27 ∧ 0 < oft C v 27 (-1) then am9 (2 * oft C v 27 g + 1) else 1
set_option maxRecDepth 10000 in
theorem ml_often1 {L : Nat} {xs : Nat → Int32} {t : Bool × Nat × Nat} {d i : Nat} {m : mMM} {v y g : Int} {l : List (Int × Nat)} (hv : 0 ≤ v ∧ v < 2147483648) (hy : 0 < y) (hy2 : y < 2147483648) (hg : -1 ≤ g ∧ g < 5) (hi : i < 20) (hl6 : l.length ≤ 6) (hW : ∀ x, x ∈ l → x.2 < 5) (h1 : m 195 i = (l.length : Int)) (h2 : m 196 i = 1) (h3 : ∀ j, j < l.length → m 193 (6 * i + j) = cv (gt l j).1 ∧ m 194 (6 * i + j) = ((gt l j).2 : Int)) : ∀ (c j : Nat) (n : Int), j + c = l.length → ∀ o h', Ev (PP L xs) d 105 97 [some (vR (some 190)), some (vI v), some (vI y), some (vI g), some (vI (n + oS (oI v y g) (l.drop j))), some (vI ((i : Nat) : Int)), some (vI ((6 * i + l.length : Nat) : Int))] [] (HS t m) o h' → Ev (PP L xs) d 105 22 [some (vR (some 190)), some (vI v), some (vI y), some (vI g), some (vI n), some (vI ((i : Nat) : Int)), some (vI ((6 * i + j : Nat) : Int))] [] (HS t m) o h' := by
  intro c
  induction c with
  | zero =>
    intro j n hj o h' hE
    have ej : j = l.length := by omega
    subst ej
    rw [List.drop_length] at hE
    rw [show n + oS (oI v y g) [] = n from Int.add_zero n] at hE
    refine ev_go (pc' := 30) (ls' := [some (vR (some 190)), some (vI v), some (vI y), some (vI g), some (vI n), some (vI ((i : Nat) : Int)), some (vI ((6 * i + l.length : Nat) : Int))]) (st' := [vR (some 190), vI (6 * ((i : Nat) : Int)), vI ((6 * i + l.length : Nat) : Int)]) (h1 := HS t m) 5 (by rfl) ?_
    refine ev_getR rfl rfl (rfl : rf 190 8 = some 195) ?_
    refine ev_go (pc' := 35) (ls' := [some (vR (some 190)), some (vI v), some (vI y), some (vI g), some (vI n), some (vI ((i : Nat) : Int)), some (vI ((6 * i + l.length : Nat) : Int))]) (st' := [vI ((i : Nat) : Int), vR (some 195), vI (6 * ((i : Nat) : Int)), vI ((6 * i + l.length : Nat) : Int)]) (h1 := HS t m) 1 (by rfl) ?_
    refine ev_ialdv (k := i) (v := ((l.length : Nat) : Int)) rfl rfl rfl (by omega) (h1) ?_
    refine ev_go (pc' := 37) (ls' := [some (vR (some 190)), some (vI v), some (vI y), some (vI g), some (vI n), some (vI ((i : Nat) : Int)), some (vI ((6 * i + l.length : Nat) : Int))]) (st' := [vI ((6 * ((i : Nat) : Int)) + ((l.length : Nat) : Int)), vI ((6 * i + l.length : Nat) : Int)]) (h1 := HS t m) 1 (by rfl) ?_
    refine ev_ic3 rfl (inI_of (by omega) (by omega)) (inI_of (by omega) (by omega)) (fun c37 => ?_) (fun c37 => absurd c37 (by omega))
    exact hE
  | succ c IH =>
    intro j n hj o h' hE
    have hjl : j < l.length := by omega
    have hx := h3 j hjl
    have hd : oS (oI v y g) (l.drop j) = (if (cv (gt l j).1).tmod y = v.tmod y ∧ (g = -1 ∨ ((gt l j).2 : Int) = g) then 1 else 0) + oS (oI v y g) (l.drop (j + 1)) := by rw [drop_gt hjl]; rfl
    have hg5 := hW _ (gt_mem hjl)
    refine ev_go (pc' := 30) (ls' := [some (vR (some 190)), some (vI v), some (vI y), some (vI g), some (vI n), some (vI ((i : Nat) : Int)), some (vI ((6 * i + j : Nat) : Int))]) (st' := [vR (some 190), vI (6 * ((i : Nat) : Int)), vI ((6 * i + j : Nat) : Int)]) (h1 := HS t m) 5 (by rfl) ?_
    refine ev_getR rfl rfl (rfl : rf 190 8 = some 195) ?_
    refine ev_go (pc' := 35) (ls' := [some (vR (some 190)), some (vI v), some (vI y), some (vI g), some (vI n), some (vI ((i : Nat) : Int)), some (vI ((6 * i + j : Nat) : Int))]) (st' := [vI ((i : Nat) : Int), vR (some 195), vI (6 * ((i : Nat) : Int)), vI ((6 * i + j : Nat) : Int)]) (h1 := HS t m) 1 (by rfl) ?_
    refine ev_ialdv (k := i) (v := ((l.length : Nat) : Int)) rfl rfl rfl (by omega) (h1) ?_
    refine ev_go (pc' := 37) (ls' := [some (vR (some 190)), some (vI v), some (vI y), some (vI g), some (vI n), some (vI ((i : Nat) : Int)), some (vI ((6 * i + j : Nat) : Int))]) (st' := [vI ((6 * ((i : Nat) : Int)) + ((l.length : Nat) : Int)), vI ((6 * i + j : Nat) : Int)]) (h1 := HS t m) 1 (by rfl) ?_
    refine ev_ic3 rfl (inI_of (by omega) (by omega)) (inI_of (by omega) (by omega)) (fun c37 => absurd c37 (by omega)) (fun c37 => ?_)
    refine ev_go (pc' := 41) (ls' := [some (vR (some 190)), some (vI v), some (vI y), some (vI g), some (vI n), some (vI ((i : Nat) : Int)), some (vI ((6 * i + j : Nat) : Int))]) (st' := [vR (some 190)]) (h1 := HS t m) 1 (by rfl) ?_
    refine ev_getR rfl rfl (rfl : rf 190 9 = some 196) ?_
    refine ev_go (pc' := 46) (ls' := [some (vR (some 190)), some (vI v), some (vI y), some (vI g), some (vI n), some (vI ((i : Nat) : Int)), some (vI ((6 * i + j : Nat) : Int))]) (st' := [vI ((i : Nat) : Int), vR (some 196)]) (h1 := HS t m) 1 (by rfl) ?_
    refine ev_zaldv (k := i) (v := 1) rfl rfl rfl (by omega) (h2) ?_
    refine ev_if0 rfl rfl (fun c47 => absurd c47 (by decide)) (fun c47 => ?_)
    refine ev_go (pc' := 53) (ls' := [some (vR (some 190)), some (vI v), some (vI y), some (vI g), some (vI n), some (vI ((i : Nat) : Int)), some (vI ((6 * i + j : Nat) : Int))]) (st' := [vR (some 190), vI n]) (h1 := HS t m) 2 (by rfl) ?_
    refine ev_getR rfl rfl (rfl : rf 190 6 = some 193) ?_
    refine ev_go (pc' := 58) (ls' := [some (vR (some 190)), some (vI v), some (vI y), some (vI g), some (vI n), some (vI ((i : Nat) : Int)), some (vI ((6 * i + j : Nat) : Int))]) (st' := [vI ((6 * i + j : Nat) : Int), vR (some 193), vI n]) (h1 := HS t m) 1 (by rfl) ?_
    refine ev_ialdv (k := (6 * i + j)) (v := (cv (gt l j).1)) rfl rfl rfl (by omega) (hx.1) ?_
    refine ev_go (pc' := 60) (ls' := [some (vR (some 190)), some (vI v), some (vI y), some (vI g), some (vI n), some (vI ((i : Nat) : Int)), some (vI ((6 * i + j : Nat) : Int))]) (st' := [vI y, vI (cv (gt l j).1), vI n]) (h1 := HS t m) 1 (by rfl) ?_
    refine ev_irem rfl (cv_in _) (inI_of (by omega) (by omega)) (by omega) ?_
    refine ev_go (pc' := 63) (ls' := [some (vR (some 190)), some (vI v), some (vI y), some (vI g), some (vI n), some (vI ((i : Nat) : Int)), some (vI ((6 * i + j : Nat) : Int))]) (st' := [vI y, vI v, vI (Int.tmod (cv (gt l j).1) y), vI n]) (h1 := HS t m) 2 (by rfl) ?_
    refine ev_irem rfl (inI_of (by omega) (by omega)) (inI_of (by omega) (by omega)) (by omega) ?_
    refine ev_ic1 rfl (tm_in (cv_bd _).1 (cv_bd _).2 hy) (tm_in hv.1 hv.2 hy) (fun c64 => ?_) (fun c64 => ?_)
    · refine ev_go (pc' := 22) (ls' := [some (vR (some 190)), some (vI v), some (vI y), some (vI g), some (vI (n + 0)), some (vI ((i : Nat) : Int)), some (vI ((6 * i + j + 1 : Nat) : Int))]) (st' := []) (h1 := HS t m) 5 (by rfl) ?_
      refine IH (j + 1) (n + 0) (by omega) o h' ?_
      rw [show (n + 0) + oS (oI v y g) (l.drop (j + 1)) = n + oS (oI v y g) (l.drop j) by rw [hd]; split <;> omega]
      exact hE
    · refine ev_go (pc' := 69) (ls' := [some (vR (some 190)), some (vI v), some (vI y), some (vI g), some (vI n), some (vI ((i : Nat) : Int)), some (vI ((6 * i + j : Nat) : Int))]) (st' := [vI (-1), vI g, vI n]) (h1 := HS t m) 2 (by rfl) ?_
      refine ev_ic0 rfl (inI_of (by omega) (by omega)) rfl (fun c69 => ?_) (fun c69 => ?_)
      · refine ev_go (pc' := 22) (ls' := [some (vR (some 190)), some (vI v), some (vI y), some (vI g), some (vI (n + 1)), some (vI ((i : Nat) : Int)), some (vI ((6 * i + j + 1 : Nat) : Int))]) (st' := []) (h1 := HS t m) 6 (by rfl) ?_
        refine IH (j + 1) (n + 1) (by omega) o h' ?_
        rw [show (n + 1) + oS (oI v y g) (l.drop (j + 1)) = n + oS (oI v y g) (l.drop j) by rw [hd]; split <;> omega]
        exact hE
      · refine ev_go (pc' := 73) (ls' := [some (vR (some 190)), some (vI v), some (vI y), some (vI g), some (vI n), some (vI ((i : Nat) : Int)), some (vI ((6 * i + j : Nat) : Int))]) (st' := [vR (some 190), vI n]) (h1 := HS t m) 1 (by rfl) ?_
        refine ev_getR rfl rfl (rfl : rf 190 7 = some 194) ?_
        refine ev_go (pc' := 78) (ls' := [some (vR (some 190)), some (vI v), some (vI y), some (vI g), some (vI n), some (vI ((i : Nat) : Int)), some (vI ((6 * i + j : Nat) : Int))]) (st' := [vI ((6 * i + j : Nat) : Int), vR (some 194), vI n]) (h1 := HS t m) 1 (by rfl) ?_
        refine ev_ialdv (k := (6 * i + j)) (v := (((gt l j).2 : Nat) : Int)) rfl rfl rfl (by omega) (hx.2) ?_
        refine ev_go (pc' := 80) (ls' := [some (vR (some 190)), some (vI v), some (vI y), some (vI g), some (vI n), some (vI ((i : Nat) : Int)), some (vI ((6 * i + j : Nat) : Int))]) (st' := [vI g, vI (((gt l j).2 : Nat) : Int), vI n]) (h1 := HS t m) 1 (by rfl) ?_
        refine ev_ic1 rfl (inI_of (by omega) (by omega)) (inI_of (by omega) (by omega)) (fun c80 => ?_) (fun c80 => ?_)
        · refine ev_go (pc' := 22) (ls' := [some (vR (some 190)), some (vI v), some (vI y), some (vI g), some (vI (n + 0)), some (vI ((i : Nat) : Int)), some (vI ((6 * i + j + 1 : Nat) : Int))]) (st' := []) (h1 := HS t m) 5 (by rfl) ?_
          refine IH (j + 1) (n + 0) (by omega) o h' ?_
          rw [show (n + 0) + oS (oI v y g) (l.drop (j + 1)) = n + oS (oI v y g) (l.drop j) by rw [hd]; split <;> omega]
          exact hE
        · refine ev_go (pc' := 22) (ls' := [some (vR (some 190)), some (vI v), some (vI y), some (vI g), some (vI (n + 1)), some (vI ((i : Nat) : Int)), some (vI ((6 * i + j + 1 : Nat) : Int))]) (st' := []) (h1 := HS t m) 6 (by rfl) ?_
          refine IH (j + 1) (n + 1) (by omega) o h' ?_
          rw [show (n + 1) + oS (oI v y g) (l.drop (j + 1)) = n + oS (oI v y g) (l.drop j) by rw [hd]; split <;> omega]
          exact hE
set_option maxRecDepth 10000 in
theorem ml_often2 {L : Nat} {xs : Nat → Int32} {t : Bool × Nat × Nat} {d : Nat} {m : mMM} {v y g : Int} {C : List Tx} (hv : 0 ≤ v ∧ v < 2147483648) (hy : 0 < y) (hy2 : y < 2147483648) (hg : -1 ≤ g ∧ g < 5) (hM : MCR m C) (hW : ∀ x, x ∈ C → ∀ z, z ∈ x.1 → z.2 < 5) : ∀ (c i : Nat) (n : Int) (z : Option mMV), i + c = C.length → Ev (PP L xs) d 105 6 [some (vR (some 190)), some (vI v), some (vI y), some (vI g), some (vI n), some (vI ((i : Nat) : Int)), z] [] (HS t m) (.inl (some (vI (n + sC (oS (oI v y g)) (C.drop i))))) (HS t m) := by
  intro c
  induction c with
  | zero =>
    intro i n z hi
    have hM2 := hM.2.1
    rw [List.drop_eq_nil_of_le (by omega), show n + sC (oS (oI v y g)) [] = n from Int.add_zero n]
    refine ev_go (pc' := 9) (ls' := [some (vR (some 190)), some (vI v), some (vI y), some (vI g), some (vI n), some (vI ((i : Nat) : Int)), z]) (st' := [vR (some 190), vI ((i : Nat) : Int)]) (h1 := HS t m) 2 (by rfl) ?_
    refine ev_getIv (v := ((C.length : Nat) : Int)) rfl rfl (hM.1) ?_
    refine ev_ic3 rfl (inI_of (by omega) (by omega)) (inI_of (by omega) (by omega)) (fun c12 => ?_) (fun c12 => absurd c12 (by omega))
    refine ev_go (pc' := 105) (ls' := [some (vR (some 190)), some (vI v), some (vI y), some (vI g), some (vI n), some (vI ((i : Nat) : Int)), z]) (st' := [vI n]) (h1 := HS t m) 1 (by rfl) ?_
    exact ev_retE rfl rfl rfl rfl
  | succ c IH =>
    intro i n z hi
    have hM2 := hM.2.1
    have hiC : i < C.length := by omega
    have hx := hM.2.2 i hiC
    have hWx := hW _ (gc_mem hiC)
    rw [drop_gc hiC]
    show Ev _ _ _ _ _ _ _ (.inl (some (vI (n + ((if (gc C i).2 then oS (oI v y g) (gc C i).1 else 0) + sC (oS (oI v y g)) (C.drop (i + 1))))))) _
    generalize gc C i = x at *
    obtain ⟨l, b⟩ := x
    have h6 : l.length ≤ 6 := hx.1.2.1
    have h195 : m 195 i = (l.length : Int) := hx.1.1
    cases b with
    | true =>
      have h196 : m 196 i = 1 := hx.1.2.2
      have h := IH (i + 1) (n + oS (oI v y g) l) (some (vI ((6 * i + l.length : Nat) : Int))) (by omega)
      rw [Int.add_assoc] at h
      refine ev_go (pc' := 9) (ls' := [some (vR (some 190)), some (vI v), some (vI y), some (vI g), some (vI n), some (vI ((i : Nat) : Int)), z]) (st' := [vR (some 190), vI ((i : Nat) : Int)]) (h1 := HS t m) 2 (by rfl) ?_
      refine ev_getIv (v := ((C.length : Nat) : Int)) rfl rfl (hM.1) ?_
      refine ev_ic3 rfl (inI_of (by omega) (by omega)) (inI_of (by omega) (by omega)) (fun c12 => absurd c12 (by omega)) (fun c12 => ?_)
      refine ev_go (pc' := 22) (ls' := [some (vR (some 190)), some (vI v), some (vI y), some (vI g), some (vI n), some (vI ((i : Nat) : Int)), some (vI (6 * ((i : Nat) : Int)))]) (st' := []) (h1 := HS t m) 4 (by rfl) ?_
      rw [show (6 * (((i : Nat) : Int) : Int)) = ((6 * i + 0 : Nat) : Int) by omega]
      refine ml_often1 (L := L) (xs := xs) (t := t) (d := d) hv hy hy2 hg (by omega) h6 hWx h195 h196 hx.2 l.length 0 n (by omega) _ _ ?_
      rw [List.drop_zero]
      refine ev_go (pc' := 6) (ls' := [some (vR (some 190)), some (vI v), some (vI y), some (vI g), some (vI (n + oS (oI v y g) l)), some (vI ((i + 1 : Nat) : Int)), some (vI ((6 * i + l.length : Nat) : Int))]) (st' := []) (h1 := HS t m) 2 (by rfl) ?_
      exact h
    | false =>
      have h196 : m 196 i = 0 := hx.1.2.2
      have h := IH (i + 1) n (some (vI ((6 * i + 0 : Nat) : Int))) (by omega)
      show Ev _ _ _ _ _ _ _ (.inl (some (vI (n + (0 + sC (oS (oI v y g)) (C.drop (i + 1))))))) _
      rw [Int.zero_add]
      refine ev_go (pc' := 9) (ls' := [some (vR (some 190)), some (vI v), some (vI y), some (vI g), some (vI n), some (vI ((i : Nat) : Int)), z]) (st' := [vR (some 190), vI ((i : Nat) : Int)]) (h1 := HS t m) 2 (by rfl) ?_
      refine ev_getIv (v := ((C.length : Nat) : Int)) rfl rfl (hM.1) ?_
      refine ev_ic3 rfl (inI_of (by omega) (by omega)) (inI_of (by omega) (by omega)) (fun c12 => absurd c12 (by omega)) (fun c12 => ?_)
      refine ev_go (pc' := 22) (ls' := [some (vR (some 190)), some (vI v), some (vI y), some (vI g), some (vI n), some (vI ((i : Nat) : Int)), some (vI (6 * ((i : Nat) : Int)))]) (st' := []) (h1 := HS t m) 4 (by rfl) ?_
      rw [show (6 * ((i : Nat) : Int)) = ((6 * i + 0 : Nat) : Int) by omega]
      refine ev_go (pc' := 30) (ls' := [some (vR (some 190)), some (vI v), some (vI y), some (vI g), some (vI n), some (vI ((i : Nat) : Int)), some (vI ((6 * i + 0 : Nat) : Int))]) (st' := [vR (some 190), vI (6 * ((i : Nat) : Int)), vI ((6 * i + 0 : Nat) : Int)]) (h1 := HS t m) 5 (by rfl) ?_
      refine ev_getR rfl rfl (rfl : rf 190 8 = some 195) ?_
      refine ev_go (pc' := 35) (ls' := [some (vR (some 190)), some (vI v), some (vI y), some (vI g), some (vI n), some (vI ((i : Nat) : Int)), some (vI ((6 * i + 0 : Nat) : Int))]) (st' := [vI ((i : Nat) : Int), vR (some 195), vI (6 * ((i : Nat) : Int)), vI ((6 * i + 0 : Nat) : Int)]) (h1 := HS t m) 1 (by rfl) ?_
      refine ev_ialdv (k := i) (v := ((l.length : Nat) : Int)) rfl rfl rfl (by omega) (h195) ?_
      refine ev_go (pc' := 37) (ls' := [some (vR (some 190)), some (vI v), some (vI y), some (vI g), some (vI n), some (vI ((i : Nat) : Int)), some (vI ((6 * i + 0 : Nat) : Int))]) (st' := [vI ((6 * ((i : Nat) : Int)) + ((l.length : Nat) : Int)), vI ((6 * i + 0 : Nat) : Int)]) (h1 := HS t m) 1 (by rfl) ?_
      refine ev_ic3 rfl (inI_of (by omega) (by omega)) (inI_of (by omega) (by omega)) (fun c37 => ?_) (fun c37 => ?_)
      · refine ev_go (pc' := 6) (ls' := [some (vR (some 190)), some (vI v), some (vI y), some (vI g), some (vI n), some (vI ((i + 1 : Nat) : Int)), some (vI ((6 * i + 0 : Nat) : Int))]) (st' := []) (h1 := HS t m) 2 (by rfl) ?_
        exact h
      · refine ev_go (pc' := 41) (ls' := [some (vR (some 190)), some (vI v), some (vI y), some (vI g), some (vI n), some (vI ((i : Nat) : Int)), some (vI ((6 * i + 0 : Nat) : Int))]) (st' := [vR (some 190)]) (h1 := HS t m) 1 (by rfl) ?_
        refine ev_getR rfl rfl (rfl : rf 190 9 = some 196) ?_
        refine ev_go (pc' := 46) (ls' := [some (vR (some 190)), some (vI v), some (vI y), some (vI g), some (vI n), some (vI ((i : Nat) : Int)), some (vI ((6 * i + 0 : Nat) : Int))]) (st' := [vI ((i : Nat) : Int), vR (some 196)]) (h1 := HS t m) 1 (by rfl) ?_
        refine ev_zaldv (k := i) (v := 0) rfl rfl rfl (by omega) (h196) ?_
        refine ev_if0 rfl rfl (fun c47 => ?_) (fun c47 => absurd c47 (by decide))
        refine ev_go (pc' := 6) (ls' := [some (vR (some 190)), some (vI v), some (vI y), some (vI g), some (vI n), some (vI ((i + 1 : Nat) : Int)), some (vI ((6 * i + 0 : Nat) : Int))]) (st' := []) (h1 := HS t m) 2 (by rfl) ?_
        exact h
set_option maxRecDepth 10000 in
theorem m_often {L : Nat} {xs : Nat → Int32} {d : Nat} {t : Bool × Nat × Nat} {m : mMM} {v y g : Int} {C : List Tx} (hv : 0 ≤ v ∧ v < 2147483648) (hy : 0 < y) (hy2 : y < 2147483648) (hg : -1 ≤ g ∧ g < 5) (hM : MCR m C) (hW : ∀ x, x ∈ C → ∀ z, z ∈ x.1 → z.2 < 5) : Ev (PP L xs) d 105 0 (entL 7 [vR (some 190), vI v, vI y, vI g]) [] (HS t m) (.inl (some (vI (oft C v y g)))) (HS t m) := by
  refine ev_go (pc' := 6) (ls' := [some (vR (some 190)), some (vI v), some (vI y), some (vI g), some (vI 0), some (vI 0), none]) (st' := []) (h1 := HS t m) 4 (by rfl) ?_
  have h := ml_often2 (L := L) (xs := xs) (t := t) (d := d) hv hy hy2 hg hM hW C.length 0 0 none (by omega)
  rw [Int.zero_add, List.drop_zero] at h
  exact h
set_option maxRecDepth 10000 in
theorem m_atMost {L : Nat} {xs : Nat → Int32} {d : Nat} {t : Bool × Nat × Nat} {m : mMM} {x b : Int} (hx : inI x = true) (hb : inI b = true) : Ev (PP L xs) d 106 0 (entL 2 [vI x, vI b]) [] (HS t m) (.inl (some (vI (if b < x then b else x)))) (HS t m) := by
  refine ev_go (pc' := 2) (ls' := [some (vI x), some (vI b)]) (st' := [vI b, vI x]) (h1 := HS t m) 2 (by rfl) ?_
  refine ev_ic5 rfl hx hb (fun c2 => ?_) (fun c2 => ?_)
  · refine ev_go (pc' := 10) (ls' := [some (vI x), some (vI b)]) (st' := [vI x]) (h1 := HS t m) 1 (by rfl) ?_
    exact ev_retE rfl rfl (by first | rw [if_pos (by omega)] | rw [if_neg (by omega)]) rfl
  · refine ev_go (pc' := 10) (ls' := [some (vI x), some (vI b)]) (st' := [vI b]) (h1 := HS t m) 2 (by rfl) ?_
    exact ev_retE rfl rfl (by first | rw [if_pos (by omega)] | rw [if_neg (by omega)]) rfl
set_option maxRecDepth 10000 in
theorem m_weightFor {L : Nat} {xs : Nat → Int32} {d : Nat} {t : Bool × Nat × Nat} {m : mMM} {v g : Int} {C : List Tx} (hv : 0 ≤ v ∧ v < 2147483648) (hg : -1 ≤ g ∧ g < 5) (hM : MCR m C) (hW : ∀ x, x ∈ C → ∀ z, z ∈ x.1 → z.2 < 5) : Ev (PP L xs) (d + 1) 107 0 (entL 5 [vR (some 190), vI v, vI g]) [] (HS t m) (.inl (some (vI (wfF C v g)))) (HS t m) := by
  refine ev_go (pc' := 7) (ls' := [some (vR (some 190)), some (vI v), some (vI g), some (vI 387420489), none]) (st' := [vI (-1), vI 387420489, vI v, vR (some 190)]) (h1 := HS t m) 6 (by rfl) ?_
  have b387420489a := MCR_bd hM v 387420489 (-1)
  refine ev_call rfl rfl (Nat.le_of_ble_eq_true rfl) (m_often (C := C) hv (by decide) (by decide) (by decide) hM hW) ⟨Nat.le_refl _, Nat.le_refl _⟩ ?_
  show Ev (PP L xs) _ 107 10 [some (vR (some 190)), some (vI v), some (vI g), some (vI 387420489), none] [vI (oft C v 387420489 (-1))] (HS t m) _ _
  refine ev_if5 rfl (inI_of (by omega) (by omega)) (fun c10 => ?_) (fun c10 => ?_)
  · refine ev_go (pc' := 38) (ls' := [some (vR (some 190)), some (vI v), some (vI g), some (vI 387420489), some (vI 19683)]) (st' := [vI 1, vI 19683]) (h1 := HS t m) 4 (by rfl) ?_
    refine ev_ic5 rfl rfl rfl (fun c38 => absurd c38 (by decide)) (fun c38 => ?_)
    refine ev_go (pc' := 42) (ls' := [some (vR (some 190)), some (vI v), some (vI g), some (vI 387420489), some (vI 19683)]) (st' := [vI v]) (h1 := HS t m) 1 (by rfl) ?_
    refine ev_i2l rfl (inI_of (by omega) (by omega)) ?_
    refine ev_go (pc' := 50) (ls' := [some (vR (some 190)), some (vI v), some (vI g), some (vI 387420489), some (vI 19683)]) (st' := [vJ 19683, vJ (v * 27)]) (h1 := HS t m) 4 (by rfl) ?_
    refine ev_lcmp rfl (inJ_of (by omega) (by omega)) rfl ?_
    refine ev_if2 rfl (cmp_in _ _) (fun c51 => ?_) (fun c51 => ?_)
    · have c51 := cz_lt c51
      refine ev_go (pc' := 87) (ls' := [some (vR (some 190)), some (vI v), some (vI g), some (vI 387420489), some (vI 19683)]) (st' := [vI 27, vI 19683]) (h1 := HS t m) 2 (by rfl) ?_
      refine ev_idiv rfl rfl rfl (by omega) ?_
      show Ev (PP L xs) _ 107 88 [some (vR (some 190)), some (vI v), some (vI g), some (vI 387420489), some (vI 19683)] [vI 729] (HS t m) _ _
      refine ev_go (pc' := 38) (ls' := [some (vR (some 190)), some (vI v), some (vI g), some (vI 387420489), some (vI 729)]) (st' := [vI 1, vI 729]) (h1 := HS t m) 4 (by rfl) ?_
      refine ev_ic5 rfl rfl rfl (fun c38 => absurd c38 (by decide)) (fun c38 => ?_)
      refine ev_go (pc' := 42) (ls' := [some (vR (some 190)), some (vI v), some (vI g), some (vI 387420489), some (vI 729)]) (st' := [vI v]) (h1 := HS t m) 1 (by rfl) ?_
      refine ev_i2l rfl (inI_of (by omega) (by omega)) ?_
      refine ev_go (pc' := 50) (ls' := [some (vR (some 190)), some (vI v), some (vI g), some (vI 387420489), some (vI 729)]) (st' := [vJ 729, vJ (v * 27)]) (h1 := HS t m) 4 (by rfl) ?_
      refine ev_lcmp rfl (inJ_of (by omega) (by omega)) rfl ?_
      refine ev_if2 rfl (cmp_in _ _) (fun c51 => ?_) (fun c51 => ?_)
      · have c51 := cz_lt c51
        refine ev_go (pc' := 87) (ls' := [some (vR (some 190)), some (vI v), some (vI g), some (vI 387420489), some (vI 729)]) (st' := [vI 27, vI 729]) (h1 := HS t m) 2 (by rfl) ?_
        refine ev_idiv rfl rfl rfl (by omega) ?_
        show Ev (PP L xs) _ 107 88 [some (vR (some 190)), some (vI v), some (vI g), some (vI 387420489), some (vI 729)] [vI 27] (HS t m) _ _
        refine ev_go (pc' := 38) (ls' := [some (vR (some 190)), some (vI v), some (vI g), some (vI 387420489), some (vI 27)]) (st' := [vI 1, vI 27]) (h1 := HS t m) 4 (by rfl) ?_
        refine ev_ic5 rfl rfl rfl (fun c38 => absurd c38 (by decide)) (fun c38 => ?_)
        refine ev_go (pc' := 42) (ls' := [some (vR (some 190)), some (vI v), some (vI g), some (vI 387420489), some (vI 27)]) (st' := [vI v]) (h1 := HS t m) 1 (by rfl) ?_
        refine ev_i2l rfl (inI_of (by omega) (by omega)) ?_
        refine ev_go (pc' := 50) (ls' := [some (vR (some 190)), some (vI v), some (vI g), some (vI 387420489), some (vI 27)]) (st' := [vJ 27, vJ (v * 27)]) (h1 := HS t m) 4 (by rfl) ?_
        refine ev_lcmp rfl (inJ_of (by omega) (by omega)) rfl ?_
        refine ev_if2 rfl (cmp_in _ _) (fun c51 => ?_) (fun c51 => ?_)
        · have c51 := cz_lt c51
          refine ev_go (pc' := 87) (ls' := [some (vR (some 190)), some (vI v), some (vI g), some (vI 387420489), some (vI 27)]) (st' := [vI 27, vI 27]) (h1 := HS t m) 2 (by rfl) ?_
          refine ev_idiv rfl rfl rfl (by omega) ?_
          show Ev (PP L xs) _ 107 88 [some (vR (some 190)), some (vI v), some (vI g), some (vI 387420489), some (vI 27)] [vI 1] (HS t m) _ _
          refine ev_go (pc' := 38) (ls' := [some (vR (some 190)), some (vI v), some (vI g), some (vI 387420489), some (vI 1)]) (st' := [vI 1, vI 1]) (h1 := HS t m) 4 (by rfl) ?_
          refine ev_ic5 rfl rfl rfl (fun c38 => ?_) (fun c38 => absurd c38 (by decide))
          refine ev_go (pc' := 94) (ls' := [some (vR (some 190)), some (vI v), some (vI g), some (vI 387420489), some (vI 1)]) (st' := [vI 1]) (h1 := HS t m) 1 (by rfl) ?_
          exact ev_retE rfl rfl (by first | (exfalso; omega) | (unfold wfF; repeat (first | rw [if_pos (by omega)] | rw [if_neg (by omega)]))) rfl
        · have c51 := cz_ge c51
          refine ev_go (pc' := 59) (ls' := [some (vR (some 190)), some (vI v), some (vI g), some (vI 387420489), some (vI 27)]) (st' := [vI (-1), vI 27, vI v, vR (some 190)]) (h1 := HS t m) 4 (by rfl) ?_
          have b27a := MCR_bd hM v 27 (-1)
          refine ev_call rfl rfl (Nat.le_of_ble_eq_true rfl) (m_often (C := C) hv (by decide) (by decide) (by decide) hM hW) ⟨Nat.le_refl _, Nat.le_refl _⟩ ?_
          show Ev (PP L xs) _ 107 62 [some (vR (some 190)), some (vI v), some (vI g), some (vI 387420489), some (vI 27)] [vI (oft C v 27 (-1))] (HS t m) _ _
          refine ev_if5 rfl (inI_of (by omega) (by omega)) (fun c62 => ?_) (fun c62 => ?_)
          · refine ev_go (pc' := 87) (ls' := [some (vR (some 190)), some (vI v), some (vI g), some (vI 387420489), some (vI 27)]) (st' := [vI 27, vI 27]) (h1 := HS t m) 2 (by rfl) ?_
            refine ev_idiv rfl rfl rfl (by omega) ?_
            show Ev (PP L xs) _ 107 88 [some (vR (some 190)), some (vI v), some (vI g), some (vI 387420489), some (vI 27)] [vI 1] (HS t m) _ _
            refine ev_go (pc' := 38) (ls' := [some (vR (some 190)), some (vI v), some (vI g), some (vI 387420489), some (vI 1)]) (st' := [vI 1, vI 1]) (h1 := HS t m) 4 (by rfl) ?_
            refine ev_ic5 rfl rfl rfl (fun c38 => ?_) (fun c38 => absurd c38 (by decide))
            refine ev_go (pc' := 94) (ls' := [some (vR (some 190)), some (vI v), some (vI g), some (vI 387420489), some (vI 1)]) (st' := [vI 1]) (h1 := HS t m) 1 (by rfl) ?_
            exact ev_retE rfl rfl (by first | (exfalso; omega) | (unfold wfF; repeat (first | rw [if_pos (by omega)] | rw [if_neg (by omega)]))) rfl
          · refine ev_go (pc' := 71) (ls' := [some (vR (some 190)), some (vI v), some (vI g), some (vI 387420489), some (vI 27)]) (st' := [vI g, vI 27, vI v, vR (some 190), vI 2]) (h1 := HS t m) 5 (by rfl) ?_
            have b27g := MCR_bd hM v 27 g
            refine ev_call rfl rfl (Nat.le_of_ble_eq_true rfl) (m_often (C := C) hv (by decide) (by decide) (by omega) hM hW) ⟨Nat.le_refl _, Nat.le_refl _⟩ ?_
            show Ev (PP L xs) _ 107 74 [some (vR (some 190)), some (vI v), some (vI g), some (vI 387420489), some (vI 27)] [vI (oft C v 27 g), vI 2] (HS t m) _ _
            refine ev_go (pc' := 79) (ls' := [some (vR (some 190)), some (vI v), some (vI g), some (vI 387420489), some (vI 27)]) (st' := [vI 9, vI ((2 * (oft C v 27 g)) + 1)]) (h1 := HS t m) 4 (by rfl) ?_
            refine ev_call rfl rfl (Nat.le_of_ble_eq_true rfl) (m_atMost (inI_of (by omega) (by omega)) rfl) ⟨Nat.le_refl _, Nat.le_refl _⟩ ?_
            show Ev (PP L xs) _ 107 82 [some (vR (some 190)), some (vI v), some (vI g), some (vI 387420489), some (vI 27)] [vI (am9 (((2 * (oft C v 27 g)) + 1)))] (HS t m) _ _
            exact ev_retE rfl rfl (by first | (exfalso; omega) | (unfold wfF; repeat (first | rw [if_pos (by omega)] | rw [if_neg (by omega)]))) rfl
      · have c51 := cz_ge c51
        refine ev_go (pc' := 59) (ls' := [some (vR (some 190)), some (vI v), some (vI g), some (vI 387420489), some (vI 729)]) (st' := [vI (-1), vI 729, vI v, vR (some 190)]) (h1 := HS t m) 4 (by rfl) ?_
        have b729a := MCR_bd hM v 729 (-1)
        refine ev_call rfl rfl (Nat.le_of_ble_eq_true rfl) (m_often (C := C) hv (by decide) (by decide) (by decide) hM hW) ⟨Nat.le_refl _, Nat.le_refl _⟩ ?_
        show Ev (PP L xs) _ 107 62 [some (vR (some 190)), some (vI v), some (vI g), some (vI 387420489), some (vI 729)] [vI (oft C v 729 (-1))] (HS t m) _ _
        refine ev_if5 rfl (inI_of (by omega) (by omega)) (fun c62 => ?_) (fun c62 => ?_)
        · refine ev_go (pc' := 87) (ls' := [some (vR (some 190)), some (vI v), some (vI g), some (vI 387420489), some (vI 729)]) (st' := [vI 27, vI 729]) (h1 := HS t m) 2 (by rfl) ?_
          refine ev_idiv rfl rfl rfl (by omega) ?_
          show Ev (PP L xs) _ 107 88 [some (vR (some 190)), some (vI v), some (vI g), some (vI 387420489), some (vI 729)] [vI 27] (HS t m) _ _
          refine ev_go (pc' := 38) (ls' := [some (vR (some 190)), some (vI v), some (vI g), some (vI 387420489), some (vI 27)]) (st' := [vI 1, vI 27]) (h1 := HS t m) 4 (by rfl) ?_
          refine ev_ic5 rfl rfl rfl (fun c38 => absurd c38 (by decide)) (fun c38 => ?_)
          refine ev_go (pc' := 42) (ls' := [some (vR (some 190)), some (vI v), some (vI g), some (vI 387420489), some (vI 27)]) (st' := [vI v]) (h1 := HS t m) 1 (by rfl) ?_
          refine ev_i2l rfl (inI_of (by omega) (by omega)) ?_
          refine ev_go (pc' := 50) (ls' := [some (vR (some 190)), some (vI v), some (vI g), some (vI 387420489), some (vI 27)]) (st' := [vJ 27, vJ (v * 27)]) (h1 := HS t m) 4 (by rfl) ?_
          refine ev_lcmp rfl (inJ_of (by omega) (by omega)) rfl ?_
          refine ev_if2 rfl (cmp_in _ _) (fun c51 => ?_) (fun c51 => ?_)
          · have c51 := cz_lt c51
            refine ev_go (pc' := 87) (ls' := [some (vR (some 190)), some (vI v), some (vI g), some (vI 387420489), some (vI 27)]) (st' := [vI 27, vI 27]) (h1 := HS t m) 2 (by rfl) ?_
            refine ev_idiv rfl rfl rfl (by omega) ?_
            show Ev (PP L xs) _ 107 88 [some (vR (some 190)), some (vI v), some (vI g), some (vI 387420489), some (vI 27)] [vI 1] (HS t m) _ _
            refine ev_go (pc' := 38) (ls' := [some (vR (some 190)), some (vI v), some (vI g), some (vI 387420489), some (vI 1)]) (st' := [vI 1, vI 1]) (h1 := HS t m) 4 (by rfl) ?_
            refine ev_ic5 rfl rfl rfl (fun c38 => ?_) (fun c38 => absurd c38 (by decide))
            refine ev_go (pc' := 94) (ls' := [some (vR (some 190)), some (vI v), some (vI g), some (vI 387420489), some (vI 1)]) (st' := [vI 1]) (h1 := HS t m) 1 (by rfl) ?_
            exact ev_retE rfl rfl (by first | (exfalso; omega) | (unfold wfF; repeat (first | rw [if_pos (by omega)] | rw [if_neg (by omega)]))) rfl
          · have c51 := cz_ge c51
            refine ev_go (pc' := 59) (ls' := [some (vR (some 190)), some (vI v), some (vI g), some (vI 387420489), some (vI 27)]) (st' := [vI (-1), vI 27, vI v, vR (some 190)]) (h1 := HS t m) 4 (by rfl) ?_
            have b27a := MCR_bd hM v 27 (-1)
            refine ev_call rfl rfl (Nat.le_of_ble_eq_true rfl) (m_often (C := C) hv (by decide) (by decide) (by decide) hM hW) ⟨Nat.le_refl _, Nat.le_refl _⟩ ?_
            show Ev (PP L xs) _ 107 62 [some (vR (some 190)), some (vI v), some (vI g), some (vI 387420489), some (vI 27)] [vI (oft C v 27 (-1))] (HS t m) _ _
            refine ev_if5 rfl (inI_of (by omega) (by omega)) (fun c62 => ?_) (fun c62 => ?_)
            · refine ev_go (pc' := 87) (ls' := [some (vR (some 190)), some (vI v), some (vI g), some (vI 387420489), some (vI 27)]) (st' := [vI 27, vI 27]) (h1 := HS t m) 2 (by rfl) ?_
              refine ev_idiv rfl rfl rfl (by omega) ?_
              show Ev (PP L xs) _ 107 88 [some (vR (some 190)), some (vI v), some (vI g), some (vI 387420489), some (vI 27)] [vI 1] (HS t m) _ _
              refine ev_go (pc' := 38) (ls' := [some (vR (some 190)), some (vI v), some (vI g), some (vI 387420489), some (vI 1)]) (st' := [vI 1, vI 1]) (h1 := HS t m) 4 (by rfl) ?_
              refine ev_ic5 rfl rfl rfl (fun c38 => ?_) (fun c38 => absurd c38 (by decide))
              refine ev_go (pc' := 94) (ls' := [some (vR (some 190)), some (vI v), some (vI g), some (vI 387420489), some (vI 1)]) (st' := [vI 1]) (h1 := HS t m) 1 (by rfl) ?_
              exact ev_retE rfl rfl (by first | (exfalso; omega) | (unfold wfF; repeat (first | rw [if_pos (by omega)] | rw [if_neg (by omega)]))) rfl
            · refine ev_go (pc' := 71) (ls' := [some (vR (some 190)), some (vI v), some (vI g), some (vI 387420489), some (vI 27)]) (st' := [vI g, vI 27, vI v, vR (some 190), vI 2]) (h1 := HS t m) 5 (by rfl) ?_
              have b27g := MCR_bd hM v 27 g
              refine ev_call rfl rfl (Nat.le_of_ble_eq_true rfl) (m_often (C := C) hv (by decide) (by decide) (by omega) hM hW) ⟨Nat.le_refl _, Nat.le_refl _⟩ ?_
              show Ev (PP L xs) _ 107 74 [some (vR (some 190)), some (vI v), some (vI g), some (vI 387420489), some (vI 27)] [vI (oft C v 27 g), vI 2] (HS t m) _ _
              refine ev_go (pc' := 79) (ls' := [some (vR (some 190)), some (vI v), some (vI g), some (vI 387420489), some (vI 27)]) (st' := [vI 9, vI ((2 * (oft C v 27 g)) + 1)]) (h1 := HS t m) 4 (by rfl) ?_
              refine ev_call rfl rfl (Nat.le_of_ble_eq_true rfl) (m_atMost (inI_of (by omega) (by omega)) rfl) ⟨Nat.le_refl _, Nat.le_refl _⟩ ?_
              show Ev (PP L xs) _ 107 82 [some (vR (some 190)), some (vI v), some (vI g), some (vI 387420489), some (vI 27)] [vI (am9 (((2 * (oft C v 27 g)) + 1)))] (HS t m) _ _
              exact ev_retE rfl rfl (by first | (exfalso; omega) | (unfold wfF; repeat (first | rw [if_pos (by omega)] | rw [if_neg (by omega)]))) rfl
        · refine ev_go (pc' := 71) (ls' := [some (vR (some 190)), some (vI v), some (vI g), some (vI 387420489), some (vI 729)]) (st' := [vI g, vI 729, vI v, vR (some 190), vI 2]) (h1 := HS t m) 5 (by rfl) ?_
          have b729g := MCR_bd hM v 729 g
          refine ev_call rfl rfl (Nat.le_of_ble_eq_true rfl) (m_often (C := C) hv (by decide) (by decide) (by omega) hM hW) ⟨Nat.le_refl _, Nat.le_refl _⟩ ?_
          show Ev (PP L xs) _ 107 74 [some (vR (some 190)), some (vI v), some (vI g), some (vI 387420489), some (vI 729)] [vI (oft C v 729 g), vI 2] (HS t m) _ _
          refine ev_go (pc' := 79) (ls' := [some (vR (some 190)), some (vI v), some (vI g), some (vI 387420489), some (vI 729)]) (st' := [vI 9, vI ((2 * (oft C v 729 g)) + 1)]) (h1 := HS t m) 4 (by rfl) ?_
          refine ev_call rfl rfl (Nat.le_of_ble_eq_true rfl) (m_atMost (inI_of (by omega) (by omega)) rfl) ⟨Nat.le_refl _, Nat.le_refl _⟩ ?_
          show Ev (PP L xs) _ 107 82 [some (vR (some 190)), some (vI v), some (vI g), some (vI 387420489), some (vI 729)] [vI (am9 (((2 * (oft C v 729 g)) + 1)))] (HS t m) _ _
          exact ev_retE rfl rfl (by first | (exfalso; omega) | (unfold wfF; repeat (first | rw [if_pos (by omega)] | rw [if_neg (by omega)]))) rfl
    · have c51 := cz_ge c51
      refine ev_go (pc' := 59) (ls' := [some (vR (some 190)), some (vI v), some (vI g), some (vI 387420489), some (vI 19683)]) (st' := [vI (-1), vI 19683, vI v, vR (some 190)]) (h1 := HS t m) 4 (by rfl) ?_
      have b19683a := MCR_bd hM v 19683 (-1)
      refine ev_call rfl rfl (Nat.le_of_ble_eq_true rfl) (m_often (C := C) hv (by decide) (by decide) (by decide) hM hW) ⟨Nat.le_refl _, Nat.le_refl _⟩ ?_
      show Ev (PP L xs) _ 107 62 [some (vR (some 190)), some (vI v), some (vI g), some (vI 387420489), some (vI 19683)] [vI (oft C v 19683 (-1))] (HS t m) _ _
      refine ev_if5 rfl (inI_of (by omega) (by omega)) (fun c62 => ?_) (fun c62 => ?_)
      · refine ev_go (pc' := 87) (ls' := [some (vR (some 190)), some (vI v), some (vI g), some (vI 387420489), some (vI 19683)]) (st' := [vI 27, vI 19683]) (h1 := HS t m) 2 (by rfl) ?_
        refine ev_idiv rfl rfl rfl (by omega) ?_
        show Ev (PP L xs) _ 107 88 [some (vR (some 190)), some (vI v), some (vI g), some (vI 387420489), some (vI 19683)] [vI 729] (HS t m) _ _
        refine ev_go (pc' := 38) (ls' := [some (vR (some 190)), some (vI v), some (vI g), some (vI 387420489), some (vI 729)]) (st' := [vI 1, vI 729]) (h1 := HS t m) 4 (by rfl) ?_
        refine ev_ic5 rfl rfl rfl (fun c38 => absurd c38 (by decide)) (fun c38 => ?_)
        refine ev_go (pc' := 42) (ls' := [some (vR (some 190)), some (vI v), some (vI g), some (vI 387420489), some (vI 729)]) (st' := [vI v]) (h1 := HS t m) 1 (by rfl) ?_
        refine ev_i2l rfl (inI_of (by omega) (by omega)) ?_
        refine ev_go (pc' := 50) (ls' := [some (vR (some 190)), some (vI v), some (vI g), some (vI 387420489), some (vI 729)]) (st' := [vJ 729, vJ (v * 27)]) (h1 := HS t m) 4 (by rfl) ?_
        refine ev_lcmp rfl (inJ_of (by omega) (by omega)) rfl ?_
        refine ev_if2 rfl (cmp_in _ _) (fun c51 => ?_) (fun c51 => ?_)
        · have c51 := cz_lt c51
          refine ev_go (pc' := 87) (ls' := [some (vR (some 190)), some (vI v), some (vI g), some (vI 387420489), some (vI 729)]) (st' := [vI 27, vI 729]) (h1 := HS t m) 2 (by rfl) ?_
          refine ev_idiv rfl rfl rfl (by omega) ?_
          show Ev (PP L xs) _ 107 88 [some (vR (some 190)), some (vI v), some (vI g), some (vI 387420489), some (vI 729)] [vI 27] (HS t m) _ _
          refine ev_go (pc' := 38) (ls' := [some (vR (some 190)), some (vI v), some (vI g), some (vI 387420489), some (vI 27)]) (st' := [vI 1, vI 27]) (h1 := HS t m) 4 (by rfl) ?_
          refine ev_ic5 rfl rfl rfl (fun c38 => absurd c38 (by decide)) (fun c38 => ?_)
          refine ev_go (pc' := 42) (ls' := [some (vR (some 190)), some (vI v), some (vI g), some (vI 387420489), some (vI 27)]) (st' := [vI v]) (h1 := HS t m) 1 (by rfl) ?_
          refine ev_i2l rfl (inI_of (by omega) (by omega)) ?_
          refine ev_go (pc' := 50) (ls' := [some (vR (some 190)), some (vI v), some (vI g), some (vI 387420489), some (vI 27)]) (st' := [vJ 27, vJ (v * 27)]) (h1 := HS t m) 4 (by rfl) ?_
          refine ev_lcmp rfl (inJ_of (by omega) (by omega)) rfl ?_
          refine ev_if2 rfl (cmp_in _ _) (fun c51 => ?_) (fun c51 => ?_)
          · have c51 := cz_lt c51
            refine ev_go (pc' := 87) (ls' := [some (vR (some 190)), some (vI v), some (vI g), some (vI 387420489), some (vI 27)]) (st' := [vI 27, vI 27]) (h1 := HS t m) 2 (by rfl) ?_
            refine ev_idiv rfl rfl rfl (by omega) ?_
            show Ev (PP L xs) _ 107 88 [some (vR (some 190)), some (vI v), some (vI g), some (vI 387420489), some (vI 27)] [vI 1] (HS t m) _ _
            refine ev_go (pc' := 38) (ls' := [some (vR (some 190)), some (vI v), some (vI g), some (vI 387420489), some (vI 1)]) (st' := [vI 1, vI 1]) (h1 := HS t m) 4 (by rfl) ?_
            refine ev_ic5 rfl rfl rfl (fun c38 => ?_) (fun c38 => absurd c38 (by decide))
            refine ev_go (pc' := 94) (ls' := [some (vR (some 190)), some (vI v), some (vI g), some (vI 387420489), some (vI 1)]) (st' := [vI 1]) (h1 := HS t m) 1 (by rfl) ?_
            exact ev_retE rfl rfl (by first | (exfalso; omega) | (unfold wfF; repeat (first | rw [if_pos (by omega)] | rw [if_neg (by omega)]))) rfl
          · have c51 := cz_ge c51
            refine ev_go (pc' := 59) (ls' := [some (vR (some 190)), some (vI v), some (vI g), some (vI 387420489), some (vI 27)]) (st' := [vI (-1), vI 27, vI v, vR (some 190)]) (h1 := HS t m) 4 (by rfl) ?_
            have b27a := MCR_bd hM v 27 (-1)
            refine ev_call rfl rfl (Nat.le_of_ble_eq_true rfl) (m_often (C := C) hv (by decide) (by decide) (by decide) hM hW) ⟨Nat.le_refl _, Nat.le_refl _⟩ ?_
            show Ev (PP L xs) _ 107 62 [some (vR (some 190)), some (vI v), some (vI g), some (vI 387420489), some (vI 27)] [vI (oft C v 27 (-1))] (HS t m) _ _
            refine ev_if5 rfl (inI_of (by omega) (by omega)) (fun c62 => ?_) (fun c62 => ?_)
            · refine ev_go (pc' := 87) (ls' := [some (vR (some 190)), some (vI v), some (vI g), some (vI 387420489), some (vI 27)]) (st' := [vI 27, vI 27]) (h1 := HS t m) 2 (by rfl) ?_
              refine ev_idiv rfl rfl rfl (by omega) ?_
              show Ev (PP L xs) _ 107 88 [some (vR (some 190)), some (vI v), some (vI g), some (vI 387420489), some (vI 27)] [vI 1] (HS t m) _ _
              refine ev_go (pc' := 38) (ls' := [some (vR (some 190)), some (vI v), some (vI g), some (vI 387420489), some (vI 1)]) (st' := [vI 1, vI 1]) (h1 := HS t m) 4 (by rfl) ?_
              refine ev_ic5 rfl rfl rfl (fun c38 => ?_) (fun c38 => absurd c38 (by decide))
              refine ev_go (pc' := 94) (ls' := [some (vR (some 190)), some (vI v), some (vI g), some (vI 387420489), some (vI 1)]) (st' := [vI 1]) (h1 := HS t m) 1 (by rfl) ?_
              exact ev_retE rfl rfl (by first | (exfalso; omega) | (unfold wfF; repeat (first | rw [if_pos (by omega)] | rw [if_neg (by omega)]))) rfl
            · refine ev_go (pc' := 71) (ls' := [some (vR (some 190)), some (vI v), some (vI g), some (vI 387420489), some (vI 27)]) (st' := [vI g, vI 27, vI v, vR (some 190), vI 2]) (h1 := HS t m) 5 (by rfl) ?_
              have b27g := MCR_bd hM v 27 g
              refine ev_call rfl rfl (Nat.le_of_ble_eq_true rfl) (m_often (C := C) hv (by decide) (by decide) (by omega) hM hW) ⟨Nat.le_refl _, Nat.le_refl _⟩ ?_
              show Ev (PP L xs) _ 107 74 [some (vR (some 190)), some (vI v), some (vI g), some (vI 387420489), some (vI 27)] [vI (oft C v 27 g), vI 2] (HS t m) _ _
              refine ev_go (pc' := 79) (ls' := [some (vR (some 190)), some (vI v), some (vI g), some (vI 387420489), some (vI 27)]) (st' := [vI 9, vI ((2 * (oft C v 27 g)) + 1)]) (h1 := HS t m) 4 (by rfl) ?_
              refine ev_call rfl rfl (Nat.le_of_ble_eq_true rfl) (m_atMost (inI_of (by omega) (by omega)) rfl) ⟨Nat.le_refl _, Nat.le_refl _⟩ ?_
              show Ev (PP L xs) _ 107 82 [some (vR (some 190)), some (vI v), some (vI g), some (vI 387420489), some (vI 27)] [vI (am9 (((2 * (oft C v 27 g)) + 1)))] (HS t m) _ _
              exact ev_retE rfl rfl (by first | (exfalso; omega) | (unfold wfF; repeat (first | rw [if_pos (by omega)] | rw [if_neg (by omega)]))) rfl
        · have c51 := cz_ge c51
          refine ev_go (pc' := 59) (ls' := [some (vR (some 190)), some (vI v), some (vI g), some (vI 387420489), some (vI 729)]) (st' := [vI (-1), vI 729, vI v, vR (some 190)]) (h1 := HS t m) 4 (by rfl) ?_
          have b729a := MCR_bd hM v 729 (-1)
          refine ev_call rfl rfl (Nat.le_of_ble_eq_true rfl) (m_often (C := C) hv (by decide) (by decide) (by decide) hM hW) ⟨Nat.le_refl _, Nat.le_refl _⟩ ?_
          show Ev (PP L xs) _ 107 62 [some (vR (some 190)), some (vI v), some (vI g), some (vI 387420489), some (vI 729)] [vI (oft C v 729 (-1))] (HS t m) _ _
          refine ev_if5 rfl (inI_of (by omega) (by omega)) (fun c62 => ?_) (fun c62 => ?_)
          · refine ev_go (pc' := 87) (ls' := [some (vR (some 190)), some (vI v), some (vI g), some (vI 387420489), some (vI 729)]) (st' := [vI 27, vI 729]) (h1 := HS t m) 2 (by rfl) ?_
            refine ev_idiv rfl rfl rfl (by omega) ?_
            show Ev (PP L xs) _ 107 88 [some (vR (some 190)), some (vI v), some (vI g), some (vI 387420489), some (vI 729)] [vI 27] (HS t m) _ _
            refine ev_go (pc' := 38) (ls' := [some (vR (some 190)), some (vI v), some (vI g), some (vI 387420489), some (vI 27)]) (st' := [vI 1, vI 27]) (h1 := HS t m) 4 (by rfl) ?_
            refine ev_ic5 rfl rfl rfl (fun c38 => absurd c38 (by decide)) (fun c38 => ?_)
            refine ev_go (pc' := 42) (ls' := [some (vR (some 190)), some (vI v), some (vI g), some (vI 387420489), some (vI 27)]) (st' := [vI v]) (h1 := HS t m) 1 (by rfl) ?_
            refine ev_i2l rfl (inI_of (by omega) (by omega)) ?_
            refine ev_go (pc' := 50) (ls' := [some (vR (some 190)), some (vI v), some (vI g), some (vI 387420489), some (vI 27)]) (st' := [vJ 27, vJ (v * 27)]) (h1 := HS t m) 4 (by rfl) ?_
            refine ev_lcmp rfl (inJ_of (by omega) (by omega)) rfl ?_
            refine ev_if2 rfl (cmp_in _ _) (fun c51 => ?_) (fun c51 => ?_)
            · have c51 := cz_lt c51
              refine ev_go (pc' := 87) (ls' := [some (vR (some 190)), some (vI v), some (vI g), some (vI 387420489), some (vI 27)]) (st' := [vI 27, vI 27]) (h1 := HS t m) 2 (by rfl) ?_
              refine ev_idiv rfl rfl rfl (by omega) ?_
              show Ev (PP L xs) _ 107 88 [some (vR (some 190)), some (vI v), some (vI g), some (vI 387420489), some (vI 27)] [vI 1] (HS t m) _ _
              refine ev_go (pc' := 38) (ls' := [some (vR (some 190)), some (vI v), some (vI g), some (vI 387420489), some (vI 1)]) (st' := [vI 1, vI 1]) (h1 := HS t m) 4 (by rfl) ?_
              refine ev_ic5 rfl rfl rfl (fun c38 => ?_) (fun c38 => absurd c38 (by decide))
              refine ev_go (pc' := 94) (ls' := [some (vR (some 190)), some (vI v), some (vI g), some (vI 387420489), some (vI 1)]) (st' := [vI 1]) (h1 := HS t m) 1 (by rfl) ?_
              exact ev_retE rfl rfl (by first | (exfalso; omega) | (unfold wfF; repeat (first | rw [if_pos (by omega)] | rw [if_neg (by omega)]))) rfl
            · have c51 := cz_ge c51
              refine ev_go (pc' := 59) (ls' := [some (vR (some 190)), some (vI v), some (vI g), some (vI 387420489), some (vI 27)]) (st' := [vI (-1), vI 27, vI v, vR (some 190)]) (h1 := HS t m) 4 (by rfl) ?_
              have b27a := MCR_bd hM v 27 (-1)
              refine ev_call rfl rfl (Nat.le_of_ble_eq_true rfl) (m_often (C := C) hv (by decide) (by decide) (by decide) hM hW) ⟨Nat.le_refl _, Nat.le_refl _⟩ ?_
              show Ev (PP L xs) _ 107 62 [some (vR (some 190)), some (vI v), some (vI g), some (vI 387420489), some (vI 27)] [vI (oft C v 27 (-1))] (HS t m) _ _
              refine ev_if5 rfl (inI_of (by omega) (by omega)) (fun c62 => ?_) (fun c62 => ?_)
              · refine ev_go (pc' := 87) (ls' := [some (vR (some 190)), some (vI v), some (vI g), some (vI 387420489), some (vI 27)]) (st' := [vI 27, vI 27]) (h1 := HS t m) 2 (by rfl) ?_
                refine ev_idiv rfl rfl rfl (by omega) ?_
                show Ev (PP L xs) _ 107 88 [some (vR (some 190)), some (vI v), some (vI g), some (vI 387420489), some (vI 27)] [vI 1] (HS t m) _ _
                refine ev_go (pc' := 38) (ls' := [some (vR (some 190)), some (vI v), some (vI g), some (vI 387420489), some (vI 1)]) (st' := [vI 1, vI 1]) (h1 := HS t m) 4 (by rfl) ?_
                refine ev_ic5 rfl rfl rfl (fun c38 => ?_) (fun c38 => absurd c38 (by decide))
                refine ev_go (pc' := 94) (ls' := [some (vR (some 190)), some (vI v), some (vI g), some (vI 387420489), some (vI 1)]) (st' := [vI 1]) (h1 := HS t m) 1 (by rfl) ?_
                exact ev_retE rfl rfl (by first | (exfalso; omega) | (unfold wfF; repeat (first | rw [if_pos (by omega)] | rw [if_neg (by omega)]))) rfl
              · refine ev_go (pc' := 71) (ls' := [some (vR (some 190)), some (vI v), some (vI g), some (vI 387420489), some (vI 27)]) (st' := [vI g, vI 27, vI v, vR (some 190), vI 2]) (h1 := HS t m) 5 (by rfl) ?_
                have b27g := MCR_bd hM v 27 g
                refine ev_call rfl rfl (Nat.le_of_ble_eq_true rfl) (m_often (C := C) hv (by decide) (by decide) (by omega) hM hW) ⟨Nat.le_refl _, Nat.le_refl _⟩ ?_
                show Ev (PP L xs) _ 107 74 [some (vR (some 190)), some (vI v), some (vI g), some (vI 387420489), some (vI 27)] [vI (oft C v 27 g), vI 2] (HS t m) _ _
                refine ev_go (pc' := 79) (ls' := [some (vR (some 190)), some (vI v), some (vI g), some (vI 387420489), some (vI 27)]) (st' := [vI 9, vI ((2 * (oft C v 27 g)) + 1)]) (h1 := HS t m) 4 (by rfl) ?_
                refine ev_call rfl rfl (Nat.le_of_ble_eq_true rfl) (m_atMost (inI_of (by omega) (by omega)) rfl) ⟨Nat.le_refl _, Nat.le_refl _⟩ ?_
                show Ev (PP L xs) _ 107 82 [some (vR (some 190)), some (vI v), some (vI g), some (vI 387420489), some (vI 27)] [vI (am9 (((2 * (oft C v 27 g)) + 1)))] (HS t m) _ _
                exact ev_retE rfl rfl (by first | (exfalso; omega) | (unfold wfF; repeat (first | rw [if_pos (by omega)] | rw [if_neg (by omega)]))) rfl
          · refine ev_go (pc' := 71) (ls' := [some (vR (some 190)), some (vI v), some (vI g), some (vI 387420489), some (vI 729)]) (st' := [vI g, vI 729, vI v, vR (some 190), vI 2]) (h1 := HS t m) 5 (by rfl) ?_
            have b729g := MCR_bd hM v 729 g
            refine ev_call rfl rfl (Nat.le_of_ble_eq_true rfl) (m_often (C := C) hv (by decide) (by decide) (by omega) hM hW) ⟨Nat.le_refl _, Nat.le_refl _⟩ ?_
            show Ev (PP L xs) _ 107 74 [some (vR (some 190)), some (vI v), some (vI g), some (vI 387420489), some (vI 729)] [vI (oft C v 729 g), vI 2] (HS t m) _ _
            refine ev_go (pc' := 79) (ls' := [some (vR (some 190)), some (vI v), some (vI g), some (vI 387420489), some (vI 729)]) (st' := [vI 9, vI ((2 * (oft C v 729 g)) + 1)]) (h1 := HS t m) 4 (by rfl) ?_
            refine ev_call rfl rfl (Nat.le_of_ble_eq_true rfl) (m_atMost (inI_of (by omega) (by omega)) rfl) ⟨Nat.le_refl _, Nat.le_refl _⟩ ?_
            show Ev (PP L xs) _ 107 82 [some (vR (some 190)), some (vI v), some (vI g), some (vI 387420489), some (vI 729)] [vI (am9 (((2 * (oft C v 729 g)) + 1)))] (HS t m) _ _
            exact ev_retE rfl rfl (by first | (exfalso; omega) | (unfold wfF; repeat (first | rw [if_pos (by omega)] | rw [if_neg (by omega)]))) rfl
      · refine ev_go (pc' := 71) (ls' := [some (vR (some 190)), some (vI v), some (vI g), some (vI 387420489), some (vI 19683)]) (st' := [vI g, vI 19683, vI v, vR (some 190), vI 2]) (h1 := HS t m) 5 (by rfl) ?_
        have b19683g := MCR_bd hM v 19683 g
        refine ev_call rfl rfl (Nat.le_of_ble_eq_true rfl) (m_often (C := C) hv (by decide) (by decide) (by omega) hM hW) ⟨Nat.le_refl _, Nat.le_refl _⟩ ?_
        show Ev (PP L xs) _ 107 74 [some (vR (some 190)), some (vI v), some (vI g), some (vI 387420489), some (vI 19683)] [vI (oft C v 19683 g), vI 2] (HS t m) _ _
        refine ev_go (pc' := 79) (ls' := [some (vR (some 190)), some (vI v), some (vI g), some (vI 387420489), some (vI 19683)]) (st' := [vI 9, vI ((2 * (oft C v 19683 g)) + 1)]) (h1 := HS t m) 4 (by rfl) ?_
        refine ev_call rfl rfl (Nat.le_of_ble_eq_true rfl) (m_atMost (inI_of (by omega) (by omega)) rfl) ⟨Nat.le_refl _, Nat.le_refl _⟩ ?_
        show Ev (PP L xs) _ 107 82 [some (vR (some 190)), some (vI v), some (vI g), some (vI 387420489), some (vI 19683)] [vI (am9 (((2 * (oft C v 19683 g)) + 1)))] (HS t m) _ _
        exact ev_retE rfl rfl (by first | (exfalso; omega) | (unfold wfF; repeat (first | rw [if_pos (by omega)] | rw [if_neg (by omega)]))) rfl
  · refine ev_go (pc' := 18) (ls' := [some (vR (some 190)), some (vI v), some (vI g), some (vI 387420489), none]) (st' := [vI g, vI 387420489, vI v, vR (some 190), vI 4]) (h1 := HS t m) 5 (by rfl) ?_
    have b387420489g := MCR_bd hM v 387420489 g
    refine ev_call rfl rfl (Nat.le_of_ble_eq_true rfl) (m_often (C := C) hv (by decide) (by decide) (by omega) hM hW) ⟨Nat.le_refl _, Nat.le_refl _⟩ ?_
    show Ev (PP L xs) _ 107 21 [some (vR (some 190)), some (vI v), some (vI g), some (vI 387420489), none] [vI (oft C v 387420489 g), vI 4] (HS t m) _ _
    refine ev_go (pc' := 26) (ls' := [some (vR (some 190)), some (vI v), some (vI g), some (vI 387420489), none]) (st' := [vI 9, vI ((4 * (oft C v 387420489 g)) + 1)]) (h1 := HS t m) 4 (by rfl) ?_
    refine ev_call rfl rfl (Nat.le_of_ble_eq_true rfl) (m_atMost (inI_of (by omega) (by omega)) rfl) ⟨Nat.le_refl _, Nat.le_refl _⟩ ?_
    show Ev (PP L xs) _ 107 29 [some (vR (some 190)), some (vI v), some (vI g), some (vI 387420489), none] [vI (am9 (((4 * (oft C v 387420489 g)) + 1)))] (HS t m) _ _
    exact ev_retE rfl rfl (by first | (exfalso; omega) | (unfold wfF; repeat (first | rw [if_pos (by omega)] | rw [if_neg (by omega)]))) rfl
