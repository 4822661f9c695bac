/-! ===== the model: weights of steps, lays, paths, tags on paths ===== -/
def sI (f h : Int) (l : List (Int × Nat)) (j : Nat) : Int := if ((gt l j).2 : Int) = h ∧ ((j = 0 ∧ f = -1) ∨ (0 < j ∧ ((gt l (j - 1)).2 : Int) = f)) then 1 else 0
def stF (f h : Int) (l : List (Int × Nat)) : Nat → Nat → Int
  | 0, _ => 0
  | c + 1, j => sI f h l j + stF f h l c (j + 1)
def stL (f h : Int) (l : List (Int × Nat)) : Int := stF f h l l.length 0
def am7 (x : Int) : Int := if 7 < x then 7 else x
def woF (C : List Tx) (f h : Int) : Int := am7 (1 + sC (stL f h) C)
theorem stF_bd (f h : Int) (l : List (Int × Nat)) : ∀ c j, 0 ≤ stF f h l c j ∧ stF f h l c j ≤ (c : Int)
  | 0, _ => ⟨Int.le_refl 0, Int.le_refl 0⟩
  | c + 1, j => by
    have IH := stF_bd f h l c (j + 1)
    show 0 ≤ sI f h l j + stF f h l c (j + 1) ∧ sI f h l j + stF f h l c (j + 1) ≤ ((c + 1 : Nat) : Int)
    unfold sI; split <;> omega
def FRy (m m' : mMM) : Prop := ∀ b k, b ≠ 199 → b ≠ 200 → b ≠ 201 → m' b k = m b k
theorem FRy_trans {m m1 m2 : mMM} (h : FRy m m1) (h2 : FRy m1 m2) : FRy m m2 := fun b k x y z => (h2 b k x y z).trans (h b k x y z)
theorem MCR_any {m m' : mMM} {C : List Tx} (h : ∀ b k, b < 197 → (b ≠ 190 ∨ k = 10) → m' b k = m b k) (hM : MCR m C) : MCR m' C :=
  ⟨by rw [h 190 10 (by decide) (Or.inr rfl)]; exact hM.1, hM.2.1, fun i hi => by
    have hx := hM.2.2 i hi
    refine ⟨⟨by rw [h 195 i (by decide) (by omega)]; exact hx.1.1, hx.1.2.1, by rw [h 196 i (by decide) (by omega)]; exact hx.1.2.2⟩, fun j hj => ?_⟩
    rw [h 193 _ (by decide) (by omega), h 194 _ (by decide) (by omega)]; exact hx.2 j hj⟩
theorem MCR_fry {m m' : mMM} {C : List Tx} (h : FRy m m') (hM : MCR m C) : MCR m' C := MCR_any (fun b k hb _ => h b k (by omega) (by omega) (by omega)) hM
theorem dv_in {q : Nat} (hq : q < 2147483648) (j : Nat) : inI ((q / 5 ^ j : Nat) : Int) = true := by
  have := Nat.div_le_self q (5 ^ j)
  generalize q / 5 ^ j = x at *
  exact inI_of (by omega) (by omega)
theorem wfF_in {m : mMM} {C : List Tx} (hM : MCR m C) (v g : Int) : inI (wfF C v g) = true := by
  have h1 := MCR_bd hM v 387420489 g
  have h2 := MCR_bd hM v 19683 g
  have h3 := MCR_bd hM v 729 g
  have h4 := MCR_bd hM v 27 g
  refine inI_of ?_ ?_ <;> (unfold wfF am9; repeat (first | split | omega))
theorem woF_in {m : mMM} {C : List Tx} (hM : MCR m C) (f h : Int) : inI (woF C f h) = true := by
  have hb := sC_bd (stL f h) 6 (by decide) C (fun x hx => by
    have h1 := stF_bd f h x.1 x.1.length 0
    obtain ⟨i, hi, e⟩ := List.mem_iff_getElem.mp hx
    have h2 := (hM.2.2 i hi).1.2.1
    rw [gc_get C hi, e] at h2
    unfold stL; omega)
  have h20 := hM.2.1
  refine inI_of ?_ ?_ <;> (unfold woF am7; split <;> omega)
set_option maxRecDepth 10000 in
theorem ml_wo1 {L : Nat} {xs : Nat → Int32} {t : Bool × Nat × Nat} {d i : Nat} {m : mMM} {f h : Int} {l : List (Int × Nat)} (hf : -1 ≤ f ∧ f < 5) (hh : 0 ≤ h ∧ h < 5) (hi : i < 20) (hl6 : l.length ≤ 6) (hW : ∀ x, x ∈ l → x.2 < 5) (h1 : m 195 i = (l.length : Int)) (h2 : m 196 i = 1) (h3 : ∀ j, j < l.length → m 193 (6 * i + j) = cv (gt l j).1 ∧ m 194 (6 * i + j) = ((gt l j).2 : Int)) : ∀ (c j : Nat) (n : Int) (z : Option mMV), j + c = l.length → ∀ o h', (∀ z', Ev (PP L xs) d 108 100 [some (vR (some 190)), some (vI f), some (vI h), some (vI (n + stF f h l c j)), some (vI ((i : Nat) : Int)), some (vI ((l.length : Nat) : Int)), z'] [] (HS t m) o h') → Ev (PP L xs) d 108 17 [some (vR (some 190)), some (vI f), some (vI h), some (vI n), some (vI ((i : Nat) : Int)), some (vI ((j : Nat) : Int)), z] [] (HS t m) o h' := by
  intro c
  induction c with
  | zero =>
    intro j n z hj o h' hE
    have ej : j = l.length := by omega
    subst ej
    have hE := hE z
    rw [show n + stF f h l 0 l.length = n from Int.add_zero n] at hE
    refine ev_go (pc' := 20) (ls' := [some (vR (some 190)), some (vI f), some (vI h), some (vI n), some (vI ((i : Nat) : Int)), some (vI ((l.length : Nat) : Int)), z]) (st' := [vR (some 190), vI ((l.length : Nat) : Int)]) (h1 := HS t m) 2 (by rfl) ?_
    refine ev_getR rfl rfl (rfl : rf 190 8 = some 195) ?_
    refine ev_go (pc' := 25) (ls' := [some (vR (some 190)), some (vI f), some (vI h), some (vI n), some (vI ((i : Nat) : Int)), some (vI ((l.length : Nat) : Int)), z]) (st' := [vI ((i : Nat) : Int), vR (some 195), vI ((l.length : Nat) : Int)]) (h1 := HS t m) 1 (by rfl) ?_
    refine ev_ialdv (k := i) (v := ((l.length : Nat) : Int)) rfl rfl rfl (by omega) (h1) ?_
    refine ev_ic3 rfl (inI_of (by omega) (by omega)) (inI_of (by omega) (by omega)) (fun c26 => ?_) (fun c26 => absurd c26 (by omega))
    exact hE
  | succ c IH =>
    intro j n z hj o h' hE
    have hjl : j < l.length := by omega
    have hx := (h3 j hjl).2
    have hg5 := hW _ (gt_mem hjl)
    have hp5 : 0 < j → (gt l (j - 1)).2 < 5 := fun _ => hW _ (gt_mem (by omega))
    have hd : stF f h l (c + 1) j = sI f h l j + stF f h l c (j + 1) := rfl
    unfold sI at hd
    refine ev_go (pc' := 20) (ls' := [some (vR (some 190)), some (vI f), some (vI h), some (vI n), some (vI ((i : Nat) : Int)), some (vI ((j : Nat) : Int)), z]) (st' := [vR (some 190), vI ((j : Nat) : Int)]) (h1 := HS t m) 2 (by rfl) ?_
    refine ev_getR rfl rfl (rfl : rf 190 8 = some 195) ?_
    refine ev_go (pc' := 25) (ls' := [some (vR (some 190)), some (vI f), some (vI h), some (vI n), some (vI ((i : Nat) : Int)), some (vI ((j : Nat) : Int)), z]) (st' := [vI ((i : Nat) : Int), vR (some 195), vI ((j : Nat) : Int)]) (h1 := HS t m) 1 (by rfl) ?_
    refine ev_ialdv (k := i) (v := ((l.length : Nat) : Int)) rfl rfl rfl (by omega) (h1) ?_
    refine ev_ic3 rfl (inI_of (by omega) (by omega)) (inI_of (by omega) (by omega)) (fun c26 => absurd c26 (by omega)) (fun c26 => ?_)
    refine ev_go (pc' := 30) (ls' := [some (vR (some 190)), some (vI f), some (vI h), some (vI n), some (vI ((i : Nat) : Int)), some (vI ((j : Nat) : Int)), z]) (st' := [vR (some 190)]) (h1 := HS t m) 1 (by rfl) ?_
    refine ev_getR rfl rfl (rfl : rf 190 9 = some 196) ?_
    refine ev_go (pc' := 35) (ls' := [some (vR (some 190)), some (vI f), some (vI h), some (vI n), some (vI ((i : Nat) : Int)), some (vI ((j : Nat) : Int)), z]) (st' := [vI ((i : Nat) : Int), vR (some 196)]) (h1 := HS t m) 1 (by rfl) ?_
    refine ev_zaldv (k := i) (v := 1) rfl rfl rfl (by omega) (h2) ?_
    refine ev_if0 rfl rfl (fun c36 => absurd c36 (by decide)) (fun c36 => ?_)
    refine ev_go (pc' := 51) (ls' := [some (vR (some 190)), some (vI f), some (vI h), some (vI n), some (vI ((i : Nat) : Int)), some (vI ((j : Nat) : Int)), some (vI ((6 * ((i : Nat) : Int)) + ((j : Nat) : Int)))]) (st' := [vR (some 190), vI n]) (h1 := HS t m) 8 (by rfl) ?_
    refine ev_getR rfl rfl (rfl : rf 190 7 = some 194) ?_
    refine ev_go (pc' := 56) (ls' := [some (vR (some 190)), some (vI f), some (vI h), some (vI n), some (vI ((i : Nat) : Int)), some (vI ((j : Nat) : Int)), some (vI ((6 * ((i : Nat) : Int)) + ((j : Nat) : Int)))]) (st' := [vI ((6 * ((i : Nat) : Int)) + ((j : Nat) : Int)), vR (some 194), vI n]) (h1 := HS t m) 1 (by rfl) ?_
    refine ev_ialdv (k := (6 * i + j)) (v := (((gt l j).2 : Nat) : Int)) rfl rfl (by omega) (by omega) (hx) ?_
    refine ev_go (pc' := 58) (ls' := [some (vR (some 190)), some (vI f), some (vI h), some (vI n), some (vI ((i : Nat) : Int)), some (vI ((j : Nat) : Int)), some (vI ((6 * ((i : Nat) : Int)) + ((j : Nat) : Int)))]) (st' := [vI h, vI (((gt l j).2 : Nat) : Int), vI n]) (h1 := HS t m) 1 (by rfl) ?_
    refine ev_ic1 rfl (inI_of (by omega) (by omega)) (inI_of (by omega) (by omega)) (fun c58 => ?_) (fun c58 => ?_)
    · refine ev_go (pc' := 17) (ls' := [some (vR (some 190)), some (vI f), some (vI h), some (vI (n + 0)), some (vI ((i : Nat) : Int)), some (vI ((j + 1 : Nat) : Int)), some (vI ((6 * ((i : Nat) : Int)) + ((j : Nat) : Int)))]) (st' := []) (h1 := HS t m) 5 (by rfl) ?_
      refine IH (j + 1) (n + 0) _ (by omega) o h' (fun z' => ?_)
      rw [show (n + 0) + stF f h l c (j + 1) = n + stF f h l (c + 1) j by rw [hd]; split <;> omega]
      exact hE z'
    · refine ev_go (pc' := 63) (ls' := [some (vR (some 190)), some (vI f), some (vI h), some (vI n), some (vI ((i : Nat) : Int)), some (vI ((j : Nat) : Int)), some (vI ((6 * ((i : Nat) : Int)) + ((j : Nat) : Int)))]) (st' := [vI ((j : Nat) : Int), vI n]) (h1 := HS t m) 1 (by rfl) ?_
      refine ev_if1 rfl (inI_of (by omega) (by omega)) (fun c63 => ?_) (fun c63 => ?_)
      · refine ev_go (pc' := 75) (ls' := [some (vR (some 190)), some (vI f), some (vI h), some (vI n), some (vI ((i : Nat) : Int)), some (vI ((j : Nat) : Int)), some (vI ((6 * ((i : Nat) : Int)) + ((j : Nat) : Int)))]) (st' := [vR (some 190), vI n]) (h1 := HS t m) 1 (by rfl) ?_
        refine ev_getR rfl rfl (rfl : rf 190 7 = some 194) ?_
        refine ev_go (pc' := 82) (ls' := [some (vR (some 190)), some (vI f), some (vI h), some (vI n), some (vI ((i : Nat) : Int)), some (vI ((j : Nat) : Int)), some (vI ((6 * ((i : Nat) : Int)) + ((j : Nat) : Int)))]) (st' := [vI (((6 * ((i : Nat) : Int)) + ((j : Nat) : Int)) - 1), vR (some 194), vI n]) (h1 := HS t m) 3 (by rfl) ?_
        refine ev_ialdv (k := (6 * i + (j - 1))) (v := (((gt l (j - 1)).2 : Nat) : Int)) rfl rfl (by omega) (by omega) ((h3 (j - 1) (by omega)).2) ?_
        refine ev_go (pc' := 84) (ls' := [some (vR (some 190)), some (vI f), some (vI h), some (vI n), some (vI ((i : Nat) : Int)), some (vI ((j : Nat) : Int)), some (vI ((6 * ((i : Nat) : Int)) + ((j : Nat) : Int)))]) (st' := [vI f, vI (((gt l (j - 1)).2 : Nat) : Int), vI n]) (h1 := HS t m) 1 (by rfl) ?_
        refine ev_ic1 rfl (inI_of (by omega) (by omega)) (inI_of (by omega) (by omega)) (fun c84 => ?_) (fun c84 => ?_)
        · refine ev_go (pc' := 17) (ls' := [some (vR (some 190)), some (vI f), some (vI h), some (vI (n + 0)), some (vI ((i : Nat) : Int)), some (vI ((j + 1 : Nat) : Int)), some (vI ((6 * ((i : Nat) : Int)) + ((j : Nat) : Int)))]) (st' := []) (h1 := HS t m) 5 (by rfl) ?_
          refine IH (j + 1) (n + 0) _ (by omega) o h' (fun z' => ?_)
          rw [show (n + 0) + stF f h l c (j + 1) = n + stF f h l (c + 1) j by rw [hd]; split <;> omega]
          exact hE z'
        · refine ev_go (pc' := 17) (ls' := [some (vR (some 190)), some (vI f), some (vI h), some (vI (n + 1)), some (vI ((i : Nat) : Int)), some (vI ((j + 1 : Nat) : Int)), some (vI ((6 * ((i : Nat) : Int)) + ((j : Nat) : Int)))]) (st' := []) (h1 := HS t m) 6 (by rfl) ?_
          refine IH (j + 1) (n + 1) _ (by omega) o h' (fun z' => ?_)
          rw [show (n + 1) + stF f h l c (j + 1) = n + stF f h l (c + 1) j by rw [hd]; split <;> omega]
          exact hE z'
      · refine ev_go (pc' := 68) (ls' := [some (vR (some 190)), some (vI f), some (vI h), some (vI n), some (vI ((i : Nat) : Int)), some (vI ((j : Nat) : Int)), some (vI ((6 * ((i : Nat) : Int)) + ((j : Nat) : Int)))]) (st' := [vI (-1), vI f, vI n]) (h1 := HS t m) 2 (by rfl) ?_
        refine ev_ic1 rfl (inI_of (by omega) (by omega)) rfl (fun c68 => ?_) (fun c68 => ?_)
        · refine ev_go (pc' := 17) (ls' := [some (vR (some 190)), some (vI f), some (vI h), some (vI (n + 0)), some (vI ((i : Nat) : Int)), some (vI ((j + 1 : Nat) : Int)), some (vI ((6 * ((i : Nat) : Int)) + ((j : Nat) : Int)))]) (st' := []) (h1 := HS t m) 5 (by rfl) ?_
          refine IH (j + 1) (n + 0) _ (by omega) o h' (fun z' => ?_)
          rw [show (n + 0) + stF f h l c (j + 1) = n + stF f h l (c + 1) j by rw [hd]; split <;> omega]
          exact hE z'
        · refine ev_go (pc' := 17) (ls' := [some (vR (some 190)), some (vI f), some (vI h), some (vI (n + 1)), some (vI ((i : Nat) : Int)), some (vI ((j + 1 : Nat) : Int)), some (vI ((6 * ((i : Nat) : Int)) + ((j : Nat) : Int)))]) (st' := []) (h1 := HS t m) 7 (by rfl) ?_
          refine IH (j + 1) (n + 1) _ (by omega) o h' (fun z' => ?_)
          rw [show (n + 1) + stF f h l c (j + 1) = n + stF f h l (c + 1) j by rw [hd]; split <;> omega]
          exact hE z'
set_option maxRecDepth 10000 in
theorem ml_wo2 {L : Nat} {xs : Nat → Int32} {t : Bool × Nat × Nat} {d : Nat} {m : mMM} {f h : Int} {C : List Tx} (hf : -1 ≤ f ∧ f < 5) (hh : 0 ≤ h ∧ h < 5) (hM : MCR m C) (hW : ∀ x, x ∈ C → ∀ z, z ∈ x.1 → z.2 < 5) : ∀ (c i : Nat) (n : Int) (y z : Option mMV), i + c = C.length → 0 ≤ n → n ≤ 1 + 6 * (i : Int) → Ev (PP L xs) (d + 1) 108 5 [some (vR (some 190)), some (vI f), some (vI h), some (vI n), some (vI ((i : Nat) : Int)), y, z] [] (HS t m) (.inl (some (vI (am7 (n + sC (stL f h) (C.drop i)))))) (HS t m) := by
  intro c
  induction c with
  | zero =>
    intro i n y z hi hn0 hn1
    have hM2 := hM.2.1
    rw [List.drop_eq_nil_of_le (by omega), show n + sC (stL f h) [] = n from Int.add_zero n]
    refine ev_go (pc' := 8) (ls' := [some (vR (some 190)), some (vI f), some (vI h), some (vI n), some (vI ((i : Nat) : Int)), y, z]) (st' := [vR (some 190), vI ((i : Nat) : Int)]) (h1 := HS t m) 2 (by rfl) ?_
    refine ev_getIv (v := ((C.length : Nat) : Int)) rfl rfl (hM.1) ?_
    refine ev_ic3 rfl (inI_of (by omega) (by omega)) (inI_of (by omega) (by omega)) (fun c11 => ?_) (fun c11 => absurd c11 (by omega))
    refine ev_go (pc' := 109) (ls' := [some (vR (some 190)), some (vI f), some (vI h), some (vI n), some (vI ((i : Nat) : Int)), y, z]) (st' := [vI 7, vI n]) (h1 := HS t m) 2 (by rfl) ?_
    refine ev_call rfl rfl (Nat.le_of_ble_eq_true rfl) (m_atMost (inI_of (by omega) (by omega)) rfl) ⟨Nat.le_refl _, Nat.le_refl _⟩ ?_
    show Ev (PP L xs) _ 108 112 [some (vR (some 190)), some (vI f), some (vI h), some (vI n), some (vI ((i : Nat) : Int)), y, z] [vI (am7 n)] (HS t m) _ _
    exact ev_retE rfl rfl rfl rfl
  | succ c IH =>
    intro i n y z hi hn0 hn1
    have hM2 := hM.2.1
    have hiC : i < C.length := by omega
    have hx := hM.2.2 i hiC
    have hWx := hW _ (gc_mem hiC)
    rw [drop_gc hiC]
    show Ev _ _ _ _ _ _ _ (.inl (some (vI (am7 (n + ((if (gc C i).2 then stL f h (gc C i).1 else 0) + sC (stL f h) (C.drop (i + 1)))))))) _
    generalize gc C i = x at *
    obtain ⟨l, b⟩ := x
    have h6 : l.length ≤ 6 := hx.1.2.1
    have h195 : m 195 i = (l.length : Int) := hx.1.1
    have hbd := stF_bd f h l l.length 0
    cases b with
    | true =>
      have h196 : m 196 i = 1 := hx.1.2.2
      have hIH := fun z' => IH (i + 1) (n + stL f h l) (some (vI (l.length : Int))) z' (by omega) (by unfold stL; omega) (by unfold stL; omega)
      refine ev_go (pc' := 8) (ls' := [some (vR (some 190)), some (vI f), some (vI h), some (vI n), some (vI ((i : Nat) : Int)), y, z]) (st' := [vR (some 190), vI ((i : Nat) : Int)]) (h1 := HS t m) 2 (by rfl) ?_
      refine ev_getIv (v := ((C.length : Nat) : Int)) rfl rfl (hM.1) ?_
      refine ev_ic3 rfl (inI_of (by omega) (by omega)) (inI_of (by omega) (by omega)) (fun c11 => absurd c11 (by omega)) (fun c11 => ?_)
      refine ev_go (pc' := 17) (ls' := [some (vR (some 190)), some (vI f), some (vI h), some (vI n), some (vI ((i : Nat) : Int)), some (vI 0), z]) (st' := []) (h1 := HS t m) 2 (by rfl) ?_
      refine ml_wo1 (L := L) (xs := xs) (t := t) (d := d + 1) hf hh (by omega) h6 hWx h195 h196 hx.2 l.length 0 n z (by omega) _ _ (fun z' => ?_)
      have hIH := hIH z'
      rw [Int.add_assoc] at hIH
      refine ev_go (pc' := 5) (ls' := [some (vR (some 190)), some (vI f), some (vI h), some (vI (n + stF f h l l.length 0)), some (vI ((i + 1 : Nat) : Int)), some (vI ((l.length : Nat) : Int)), z']) (st' := []) (h1 := HS t m) 2 (by rfl) ?_
      exact hIH
    | false =>
      have h196 : m 196 i = 0 := hx.1.2.2
      have hIH := IH (i + 1) n (some (vI 0)) z (by omega) hn0 (by omega)
      show Ev _ _ _ _ _ _ _ (.inl (some (vI (am7 (n + (0 + sC (stL f h) (C.drop (i + 1)))))))) _
      rw [Int.zero_add]
      refine ev_go (pc' := 8) (ls' := [some (vR (some 190)), some (vI f), some (vI h), some (vI n), some (vI ((i : Nat) : Int)), y, z]) (st' := [vR (some 190), vI ((i : Nat) : Int)]) (h1 := HS t m) 2 (by rfl) ?_
      refine ev_getIv (v := ((C.length : Nat) : Int)) rfl rfl (hM.1) ?_
      refine ev_ic3 rfl (inI_of (by omega) (by omega)) (inI_of (by omega) (by omega)) (fun c11 => absurd c11 (by omega)) (fun c11 => ?_)
      refine ev_go (pc' := 20) (ls' := [some (vR (some 190)), some (vI f), some (vI h), some (vI n), some (vI ((i : Nat) : Int)), some (vI 0), z]) (st' := [vR (some 190), vI 0]) (h1 := HS t m) 4 (by rfl) ?_
      refine ev_getR rfl rfl (rfl : rf 190 8 = some 195) ?_
      refine ev_go (pc' := 25) (ls' := [some (vR (some 190)), some (vI f), some (vI h), some (vI n), some (vI ((i : Nat) : Int)), some (vI 0), z]) (st' := [vI ((i : Nat) : Int), vR (some 195), vI 0]) (h1 := HS t m) 1 (by rfl) ?_
      refine ev_ialdv (k := i) (v := ((l.length : Nat) : Int)) rfl rfl rfl (by omega) (h195) ?_
      refine ev_ic3 rfl rfl (inI_of (by omega) (by omega)) (fun c26 => ?_) (fun c26 => ?_)
      · refine ev_go (pc' := 5) (ls' := [some (vR (some 190)), some (vI f), some (vI h), some (vI n), some (vI ((i + 1 : Nat) : Int)), some (vI 0), z]) (st' := []) (h1 := HS t m) 2 (by rfl) ?_
        exact hIH
      · refine ev_go (pc' := 30) (ls' := [some (vR (some 190)), some (vI f), some (vI h), some (vI n), some (vI ((i : Nat) : Int)), some (vI 0), z]) (st' := [vR (some 190)]) (h1 := HS t m) 1 (by rfl) ?_
        refine ev_getR rfl rfl (rfl : rf 190 9 = some 196) ?_
        refine ev_go (pc' := 35) (ls' := [some (vR (some 190)), some (vI f), some (vI h), some (vI n), some (vI ((i : Nat) : Int)), some (vI 0), z]) (st' := [vI ((i : Nat) : Int), vR (some 196)]) (h1 := HS t m) 1 (by rfl) ?_
        refine ev_zaldv (k := i) (v := 0) rfl rfl rfl (by omega) (h196) ?_
        refine ev_if0 rfl rfl (fun c36 => ?_) (fun c36 => absurd c36 (by decide))
        refine ev_go (pc' := 5) (ls' := [some (vR (some 190)), some (vI f), some (vI h), some (vI n), some (vI ((i + 1 : Nat) : Int)), some (vI 0), z]) (st' := []) (h1 := HS t m) 2 (by rfl) ?_
        exact hIH
set_option maxRecDepth 10000 in
theorem m_weightOf {L : Nat} {xs : Nat → Int32} {d : Nat} {t : Bool × Nat × Nat} {m : mMM} {f h : Int} {C : List Tx} (hf : -1 ≤ f ∧ f < 5) (hh : 0 ≤ h ∧ h < 5) (hM : MCR m C) (hW : ∀ x, x ∈ C → ∀ z, z ∈ x.1 → z.2 < 5) : Ev (PP L xs) (d + 1) 108 0 (entL 7 [vR (some 190), vI f, vI h]) [] (HS t m) (.inl (some (vI (woF C f h)))) (HS t m) := by
  refine ev_go (pc' := 5) (ls' := [some (vR (some 190)), some (vI f), some (vI h), some (vI 1), some (vI 0), none, none]) (st' := []) (h1 := HS t m) 4 (by rfl) ?_
  have hIH := ml_wo2 (L := L) (xs := xs) (t := t) (d := d) hf hh hM hW C.length 0 1 none none (by omega) (by decide) (by decide)
  rw [List.drop_zero] at hIH
  exact hIH
set_option maxRecDepth 10000 in
theorem ml_lays1 {L : Nat} {xs : Nat → Int32} {t : Bool × Nat × Nat} {d n : Nat} {C : List Tx} {V : Nat → Int} (hn5 : n ≤ 5) (hV : ∀ i, i < n → 0 ≤ V i ∧ V i < 2147483648) (hW : ∀ x, x ∈ C → ∀ z, z ∈ x.1 → z.2 < 5) : ∀ (c k : Nat) (m : mMM), k + c = 5 * n → MCR m C → m 190 13 = (n : Int) → (∀ i, i < n → m 197 i = V i) → ∃ m', (∀ j, j < 5 * n → k ≤ j → m' 199 j = wfF C (V (j / 5)) ((j % 5 : Nat) : Int)) ∧ (∀ j, j < k → m' 199 j = m 199 j) ∧ (∀ b j, b ≠ 199 → m' b j = m b j) ∧ ∀ o h', Ev (PP L xs) (d + 2) 109 40 [some (vR (some 190)), some (vI ((5 * n : Nat) : Int))] [] (HS t m') o h' → Ev (PP L xs) (d + 2) 109 2 [some (vR (some 190)), some (vI ((k : Nat) : Int))] [] (HS t m) o h' := by
  intro c
  induction c with
  | zero =>
    intro k m hk hM hn hs
    have ek : k = 5 * n := by omega
    subst ek
    refine ⟨m, fun j h1 h2 => absurd h1 (by omega), fun _ _ => rfl, fun _ _ _ => rfl, fun o h' hE => ?_⟩
    refine ev_go (pc' := 5) (ls' := [some (vR (some 190)), some (vI ((5 * n : Nat) : Int))]) (st' := [vR (some 190), vI 5, vI ((5 * n : Nat) : Int)]) (h1 := HS t m) 3 (by rfl) ?_
    refine ev_getIv (v := ((n : Nat) : Int)) rfl rfl (hn) ?_
    refine ev_go (pc' := 9) (ls' := [some (vR (some 190)), some (vI ((5 * n : Nat) : Int))]) (st' := [vI (5 * ((n : Nat) : Int)), vI ((5 * n : Nat) : Int)]) (h1 := HS t m) 1 (by rfl) ?_
    refine ev_ic3 rfl (inI_of (by omega) (by omega)) (inI_of (by omega) (by omega)) (fun c9 => ?_) (fun c9 => absurd c9 (by omega))
    exact hE
  | succ c IH =>
    intro k m hk hM hn hs
    have hF : ∀ b j, b ≠ 199 → (up m 199 k (wfF C (V (k / 5)) ((k % 5 : Nat) : Int))) b j = m b j := fun b j hb => up_ne1 _ _ hb
    obtain ⟨m2, h1, h2, h3, hK⟩ := IH (k + 1) (up m 199 k (wfF C (V (k / 5)) ((k % 5 : Nat) : Int))) (by omega) (MCR_any (fun b j hb _ => hF b j (by omega)) hM) (by rw [hF 190 13 (by decide)]; exact hn) (fun i hi => by rw [hF 197 i (by decide)]; exact hs i hi)
    refine ⟨m2, fun j hj hkj => ?_, fun j hj => ?_, fun b j hb => (h3 b j hb).trans (hF b j hb), fun o h' hE => ?_⟩
    · by_cases c0 : j = k
      · subst c0; rw [h2 j (by omega), up_eq]
      · exact h1 j hj (by omega)
    · rw [h2 j (by omega), up_ne2 _ _ (by omega)]
    · refine ev_go (pc' := 5) (ls' := [some (vR (some 190)), some (vI ((k : Nat) : Int))]) (st' := [vR (some 190), vI 5, vI ((k : Nat) : Int)]) (h1 := HS t m) 3 (by rfl) ?_
      refine ev_getIv (v := ((n : Nat) : Int)) rfl rfl (hn) ?_
      refine ev_go (pc' := 9) (ls' := [some (vR (some 190)), some (vI ((k : Nat) : Int))]) (st' := [vI (5 * ((n : Nat) : Int)), vI ((k : Nat) : Int)]) (h1 := HS t m) 1 (by rfl) ?_
      refine ev_ic3 rfl (inI_of (by omega) (by omega)) (inI_of (by omega) (by omega)) (fun c9 => absurd c9 (by omega)) (fun c9 => ?_)
      refine ev_go (pc' := 13) (ls' := [some (vR (some 190)), some (vI ((k : Nat) : Int))]) (st' := [vR (some 190)]) (h1 := HS t m) 1 (by rfl) ?_
      refine ev_getR rfl rfl (rfl : rf 190 14 = some 199) ?_
      refine ev_go (pc' := 19) (ls' := [some (vR (some 190)), some (vI ((k : Nat) : Int))]) (st' := [vR (some 190), vR (some 190), vI ((k : Nat) : Int), vR (some 199)]) (h1 := HS t m) 3 (by rfl) ?_
      refine ev_getR rfl rfl (rfl : rf 190 11 = some 197) ?_
      refine ev_go (pc' := 24) (ls' := [some (vR (some 190)), some (vI ((k : Nat) : Int))]) (st' := [vI 5, vI ((k : Nat) : Int), vR (some 197), vR (some 190), vI ((k : Nat) : Int), vR (some 199)]) (h1 := HS t m) 2 (by rfl) ?_
      refine ev_idiv rfl (inI_of (by omega) (by omega)) rfl (by omega) ?_
      show Ev (PP L xs) _ 109 25 [some (vR (some 190)), some (vI ((k : Nat) : Int))] [vI ((k / 5 : Nat) : Int), vR (some 197), vR (some 190), vI ((k : Nat) : Int), vR (some 199)] (HS t m) _ _
      refine ev_ialdv (k := (k / 5)) (v := (V (k / 5))) rfl rfl rfl (by omega) ((hs (k / 5) (by omega))) ?_
      refine ev_go (pc' := 28) (ls' := [some (vR (some 190)), some (vI ((k : Nat) : Int))]) (st' := [vI 5, vI ((k : Nat) : Int), vI (V (k / 5)), vR (some 190), vI ((k : Nat) : Int), vR (some 199)]) (h1 := HS t m) 2 (by rfl) ?_
      refine ev_irem rfl (inI_of (by omega) (by omega)) rfl (by omega) ?_
      show Ev (PP L xs) _ 109 29 [some (vR (some 190)), some (vI ((k : Nat) : Int))] [vI ((k % 5 : Nat) : Int), vI (V (k / 5)), vR (some 190), vI ((k : Nat) : Int), vR (some 199)] (HS t m) _ _
      have hvk := hV (k / 5) (by omega)
      refine ev_call rfl rfl (Nat.le_of_ble_eq_true rfl) (m_weightFor (d := d) hvk (by omega) hM hW) ⟨Nat.le_refl _, Nat.le_refl _⟩ ?_
      show Ev (PP L xs) _ 109 32 [some (vR (some 190)), some (vI ((k : Nat) : Int))] [vI (wfF C (V (k / 5)) ((k % 5 : Nat) : Int)), vI ((k : Nat) : Int), vR (some 199)] (HS t m) _ _
      refine ev_i2l rfl (wfF_in hM _ _) ?_
      refine ev_last (k := k) rfl rfl rfl (by omega) ?_
      refine ev_go (pc' := 2) (ls' := [some (vR (some 190)), some (vI ((k + 1 : Nat) : Int))]) (st' := []) (h1 := HS t (up m 199 k (wfF C (V (k / 5)) ((k % 5 : Nat) : Int)))) 2 (by rfl) ?_
      exact hK o h' hE
set_option maxRecDepth 10000 in
theorem ml_lays2 {L : Nat} {xs : Nat → Int32} {t : Bool × Nat × Nat} {d : Nat} {C : List Tx} (hW : ∀ x, x ∈ C → ∀ z, z ∈ x.1 → z.2 < 5) : ∀ (c k : Nat) (m : mMM), k + c = 25 → MCR m C → ∃ m', (∀ j, j < 25 → k ≤ j → m' 200 j = woF C ((j / 5 : Nat) : Int) ((j % 5 : Nat) : Int)) ∧ (∀ j, j < k → m' 200 j = m 200 j) ∧ (∀ b j, b ≠ 200 → m' b j = m b j) ∧ ∀ o h', Ev (PP L xs) (d + 2) 109 71 [some (vR (some 190)), some (vI ((25 : Nat) : Int))] [] (HS t m') o h' → Ev (PP L xs) (d + 2) 109 42 [some (vR (some 190)), some (vI ((k : Nat) : Int))] [] (HS t m) o h' := by
  intro c
  induction c with
  | zero =>
    intro k m hk hM
    have ek : k = 25 := by omega
    subst ek
    refine ⟨m, fun j h1 h2 => absurd h1 (by omega), fun _ _ => rfl, fun _ _ _ => rfl, fun o h' hE => ?_⟩
    refine ev_go (pc' := 45) (ls' := [some (vR (some 190)), some (vI ((25 : Nat) : Int))]) (st' := [vI 25, vI ((25 : Nat) : Int)]) (h1 := HS t m) 2 (by rfl) ?_
    refine ev_ic3 rfl (inI_of (by omega) (by omega)) rfl (fun c45 => ?_) (fun c45 => absurd c45 (by omega))
    exact hE
  | succ c IH =>
    intro k m hk hM
    have hF : ∀ b j, b ≠ 200 → (up m 200 k (woF C ((k / 5 : Nat) : Int) ((k % 5 : Nat) : Int))) b j = m b j := fun b j hb => up_ne1 _ _ hb
    obtain ⟨m2, h1, h2, h3, hK⟩ := IH (k + 1) (up m 200 k (woF C ((k / 5 : Nat) : Int) ((k % 5 : Nat) : Int))) (by omega) (MCR_any (fun b j hb _ => hF b j (by omega)) hM)
    refine ⟨m2, fun j hj hkj => ?_, fun j hj => ?_, fun b j hb => (h3 b j hb).trans (hF b j hb), fun o h' hE => ?_⟩
    · by_cases c0 : j = k
      · subst c0; rw [h2 j (by omega), up_eq]
      · exact h1 j hj (by omega)
    · rw [h2 j (by omega), up_ne2 _ _ (by omega)]
    · refine ev_go (pc' := 45) (ls' := [some (vR (some 190)), some (vI ((k : Nat) : Int))]) (st' := [vI 25, vI ((k : Nat) : Int)]) (h1 := HS t m) 2 (by rfl) ?_
      refine ev_ic3 rfl (inI_of (by omega) (by omega)) rfl (fun c45 => absurd c45 (by omega)) (fun c45 => ?_)
      refine ev_go (pc' := 49) (ls' := [some (vR (some 190)), some (vI ((k : Nat) : Int))]) (st' := [vR (some 190)]) (h1 := HS t m) 1 (by rfl) ?_
      refine ev_getR rfl rfl (rfl : rf 190 15 = some 200) ?_
      refine ev_go (pc' := 56) (ls' := [some (vR (some 190)), some (vI ((k : Nat) : Int))]) (st' := [vI 5, vI ((k : Nat) : Int), vR (some 190), vI ((k : Nat) : Int), vR (some 200)]) (h1 := HS t m) 4 (by rfl) ?_
      refine ev_idiv rfl (inI_of (by omega) (by omega)) rfl (by omega) ?_
      show Ev (PP L xs) _ 109 57 [some (vR (some 190)), some (vI ((k : Nat) : Int))] [vI ((k / 5 : Nat) : Int), vR (some 190), vI ((k : Nat) : Int), vR (some 200)] (HS t m) _ _
      refine ev_go (pc' := 59) (ls' := [some (vR (some 190)), some (vI ((k : Nat) : Int))]) (st' := [vI 5, vI ((k : Nat) : Int), vI ((k / 5 : Nat) : Int), vR (some 190), vI ((k : Nat) : Int), vR (some 200)]) (h1 := HS t m) 2 (by rfl) ?_
      refine ev_irem rfl (inI_of (by omega) (by omega)) rfl (by omega) ?_
      show Ev (PP L xs) _ 109 60 [some (vR (some 190)), some (vI ((k : Nat) : Int))] [vI ((k % 5 : Nat) : Int), vI ((k / 5 : Nat) : Int), vR (some 190), vI ((k : Nat) : Int), vR (some 200)] (HS t m) _ _
      refine ev_call rfl rfl (Nat.le_of_ble_eq_true rfl) (m_weightOf (d := d) (by omega) (by omega) hM hW) ⟨Nat.le_refl _, Nat.le_refl _⟩ ?_
      show Ev (PP L xs) _ 109 63 [some (vR (some 190)), some (vI ((k : Nat) : Int))] [vI (woF C ((k / 5 : Nat) : Int) ((k % 5 : Nat) : Int)), vI ((k : Nat) : Int), vR (some 200)] (HS t m) _ _
      refine ev_i2l rfl (woF_in hM _ _) ?_
      refine ev_last (k := k) rfl rfl rfl (by omega) ?_
      refine ev_go (pc' := 42) (ls' := [some (vR (some 190)), some (vI ((k + 1 : Nat) : Int))]) (st' := []) (h1 := HS t (up m 200 k (woF C ((k / 5 : Nat) : Int) ((k % 5 : Nat) : Int)))) 2 (by rfl) ?_
      exact hK o h' hE
set_option maxRecDepth 10000 in
theorem ml_lays3 {L : Nat} {xs : Nat → Int32} {t : Bool × Nat × Nat} {d : Nat} {C : List Tx} (hW : ∀ x, x ∈ C → ∀ z, z ∈ x.1 → z.2 < 5) : ∀ (c k : Nat) (m : mMM), k + c = 5 → MCR m C → ∃ m', (∀ j, j < 5 → k ≤ j → m' 201 j = woF C (-1) (j : Int)) ∧ (∀ j, j < k → m' 201 j = m 201 j) ∧ (∀ b j, b ≠ 201 → m' b j = m b j) ∧ ∀ o h', Ev (PP L xs) (d + 2) 109 97 [some (vR (some 190)), some (vI ((5 : Nat) : Int))] [] (HS t m') o h' → Ev (PP L xs) (d + 2) 109 73 [some (vR (some 190)), some (vI ((k : Nat) : Int))] [] (HS t m) o h' := by
  intro c
  induction c with
  | zero =>
    intro k m hk hM
    have ek : k = 5 := by omega
    subst ek
    refine ⟨m, fun j h1 h2 => absurd h1 (by omega), fun _ _ => rfl, fun _ _ _ => rfl, fun o h' hE => ?_⟩
    refine ev_go (pc' := 75) (ls' := [some (vR (some 190)), some (vI ((5 : Nat) : Int))]) (st' := [vI 5, vI ((5 : Nat) : Int)]) (h1 := HS t m) 2 (by rfl) ?_
    refine ev_ic3 rfl (inI_of (by omega) (by omega)) rfl (fun c75 => ?_) (fun c75 => absurd c75 (by omega))
    exact hE
  | succ c IH =>
    intro k m hk hM
    have hF : ∀ b j, b ≠ 201 → (up m 201 k (woF C (-1) (k : Int))) b j = m b j := fun b j hb => up_ne1 _ _ hb
    obtain ⟨m2, h1, h2, h3, hK⟩ := IH (k + 1) (up m 201 k (woF C (-1) (k : Int))) (by omega) (MCR_any (fun b j hb _ => hF b j (by omega)) hM)
    refine ⟨m2, fun j hj hkj => ?_, fun j hj => ?_, fun b j hb => (h3 b j hb).trans (hF b j hb), fun o h' hE => ?_⟩
    · by_cases c0 : j = k
      · subst c0; rw [h2 j (by omega), up_eq]
      · exact h1 j hj (by omega)
    · rw [h2 j (by omega), up_ne2 _ _ (by omega)]
    · refine ev_go (pc' := 75) (ls' := [some (vR (some 190)), some (vI ((k : Nat) : Int))]) (st' := [vI 5, vI ((k : Nat) : Int)]) (h1 := HS t m) 2 (by rfl) ?_
      refine ev_ic3 rfl (inI_of (by omega) (by omega)) rfl (fun c75 => absurd c75 (by omega)) (fun c75 => ?_)
      refine ev_go (pc' := 79) (ls' := [some (vR (some 190)), some (vI ((k : Nat) : Int))]) (st' := [vR (some 190)]) (h1 := HS t m) 1 (by rfl) ?_
      refine ev_getR rfl rfl (rfl : rf 190 16 = some 201) ?_
      refine ev_go (pc' := 86) (ls' := [some (vR (some 190)), some (vI ((k : Nat) : Int))]) (st' := [vI ((k : Nat) : Int), vI (-1), vR (some 190), vI ((k : Nat) : Int), vR (some 201)]) (h1 := HS t m) 4 (by rfl) ?_
      refine ev_call rfl rfl (Nat.le_of_ble_eq_true rfl) (m_weightOf (d := d) (by decide) (by omega) hM hW) ⟨Nat.le_refl _, Nat.le_refl _⟩ ?_
      show Ev (PP L xs) _ 109 89 [some (vR (some 190)), some (vI ((k : Nat) : Int))] [vI (woF C (-1) (k : Int)), vI ((k : Nat) : Int), vR (some 201)] (HS t m) _ _
      refine ev_i2l rfl (woF_in hM _ _) ?_
      refine ev_last (k := k) rfl rfl rfl (by omega) ?_
      refine ev_go (pc' := 73) (ls' := [some (vR (some 190)), some (vI ((k + 1 : Nat) : Int))]) (st' := []) (h1 := HS t (up m 201 k (woF C (-1) (k : Int)))) 2 (by rfl) ?_
      exact hK o h' hE
set_option maxRecDepth 10000 in
theorem m_lays {L : Nat} {xs : Nat → Int32} {t : Bool × Nat × Nat} {d n : Nat} {m : mMM} {C : List Tx} {V : Nat → Int} (hn5 : n ≤ 5) (hV : ∀ i, i < n → 0 ≤ V i ∧ V i < 2147483648) (hW : ∀ x, x ∈ C → ∀ z, z ∈ x.1 → z.2 < 5) (hM : MCR m C) (hn : m 190 13 = (n : Int)) (hs : ∀ i, i < n → m 197 i = V i) : ∃ m', Ev (PP L xs) (d + 2) 109 0 (entL 2 [vR (some 190)]) [] (HS t m) (.inl none) (HS t m') ∧ (∀ j, j < 5 * n → m' 199 j = wfF C (V (j / 5)) ((j % 5 : Nat) : Int)) ∧ (∀ j, j < 25 → m' 200 j = woF C ((j / 5 : Nat) : Int) ((j % 5 : Nat) : Int)) ∧ (∀ j, j < 5 → m' 201 j = woF C (-1) (j : Int)) ∧ FRy m m' := by
  obtain ⟨m1, a1, -, a3, aK⟩ := ml_lays1 (L := L) (xs := xs) (t := t) (d := d) hn5 hV hW (5 * n) 0 m (by omega) hM hn hs
  obtain ⟨m2, b1, -, b3, bK⟩ := ml_lays2 (L := L) (xs := xs) (t := t) (d := d) hW 25 0 m1 rfl (MCR_any (fun b j hb _ => a3 b j (by omega)) hM)
  obtain ⟨m3, e1, -, e3, eK⟩ := ml_lays3 (L := L) (xs := xs) (t := t) (d := d) hW 5 0 m2 rfl (MCR_any (fun b j hb _ => (b3 b j (by omega)).trans (a3 b j (by omega))) hM)
  refine ⟨m3, ?_, fun j hj => ?_, fun j hj => ?_, fun j hj => e1 j hj (Nat.zero_le _), fun b j x y z => (e3 b j z).trans ((b3 b j y).trans (a3 b j x))⟩
  · refine ev_go (pc' := 2) (ls' := [some (vR (some 190)), some (vI 0)]) (st' := []) (h1 := HS t m) 2 (by rfl) ?_
    refine aK _ _ ?_
    refine ev_go (pc' := 42) (ls' := [some (vR (some 190)), some (vI 0)]) (st' := []) (h1 := HS t m1) 2 (by rfl) ?_
    refine bK _ _ ?_
    refine ev_go (pc' := 73) (ls' := [some (vR (some 190)), some (vI 0)]) (st' := []) (h1 := HS t m2) 2 (by rfl) ?_
    refine eK _ _ ?_
    exact ev_retE rfl rfl rfl rfl
  · rw [e3 199 j (by decide), b3 199 j (by decide)]; exact a1 j hj (Nat.zero_le _)
  · rw [e3 200 j (by decide)]; exact b1 j hj (Nat.zero_le _)
set_option maxRecDepth 10000 in
theorem ml_paths {L : Nat} {xs : Nat → Int32} {t : Bool × Nat × Nat} {d n : Nat} {m : mMM} (hn : m 190 13 = (n : Int)) (hn5 : n ≤ 5) : ∀ (c k : Nat), k + c = n → Ev (PP L xs) d 110 4 [some (vR (some 190)), some (vI ((5 ^ k : Nat) : Int)), some (vI ((k : Nat) : Int))] [] (HS t m) (.inl (some (vI ((5 ^ n : Nat) : Int)))) (HS t m) := by
  intro c
  induction c with
  | zero =>
    intro k hk
    have ek : k = n := by omega
    subst ek
    refine ev_go (pc' := 6) (ls' := [some (vR (some 190)), some (vI ((5 ^ k : Nat) : Int)), some (vI ((k : Nat) : Int))]) (st' := [vR (some 190), vI ((k : Nat) : Int)]) (h1 := HS t m) 2 (by rfl) ?_
    refine ev_getIv (v := ((k : Nat) : Int)) rfl rfl (hn) ?_
    refine ev_ic3 rfl (inI_of (by omega) (by omega)) (inI_of (by omega) (by omega)) (fun c9 => ?_) (fun c9 => absurd c9 (by omega))
    refine ev_go (pc' := 23) (ls' := [some (vR (some 190)), some (vI ((5 ^ k : Nat) : Int)), some (vI ((k : Nat) : Int))]) (st' := [vI ((5 ^ k : Nat) : Int)]) (h1 := HS t m) 1 (by rfl) ?_
    exact ev_retE rfl rfl rfl rfl
  | succ c IH =>
    intro k hk
    have h := IH (k + 1) (by omega)
    have e5 : ((5 ^ (k + 1) : Nat) : Int) = ((5 ^ k : Nat) : Int) * 5 := by rw [Nat.pow_succ]; exact Int.natCast_mul _ _
    rw [e5] at h
    refine ev_go (pc' := 6) (ls' := [some (vR (some 190)), some (vI ((5 ^ k : Nat) : Int)), some (vI ((k : Nat) : Int))]) (st' := [vR (some 190), vI ((k : Nat) : Int)]) (h1 := HS t m) 2 (by rfl) ?_
    refine ev_getIv (v := ((n : Nat) : Int)) rfl rfl (hn) ?_
    refine ev_ic3 rfl (inI_of (by omega) (by omega)) (inI_of (by omega) (by omega)) (fun c9 => absurd c9 (by omega)) (fun c9 => ?_)
    refine ev_go (pc' := 4) (ls' := [some (vR (some 190)), some (vI (((5 ^ k : Nat) : Int) * 5)), some (vI ((k + 1 : Nat) : Int))]) (st' := []) (h1 := HS t m) 6 (by rfl) ?_
    exact h
set_option maxRecDepth 10000 in
theorem m_paths {L : Nat} {xs : Nat → Int32} {d : Nat} {t : Bool × Nat × Nat} {m : mMM} {n : Nat} (hn : m 190 13 = (n : Int)) (hn5 : n ≤ 5) : Ev (PP L xs) d 110 0 (entL 3 [vR (some 190)]) [] (HS t m) (.inl (some (vI ((5 ^ n : Nat) : Int)))) (HS t m) := by
  refine ev_go (pc' := 4) (ls' := [some (vR (some 190)), some (vI 1), some (vI 0)]) (st' := []) (h1 := HS t m) 4 (by rfl) ?_
  exact ml_paths (L := L) (xs := xs) (t := t) (d := d) hn hn5 n 0 (by omega)
set_option maxRecDepth 10000 in
theorem ml_tagAt {L : Nat} {xs : Nat → Int32} {t : Bool × Nat × Nat} {d n p r : Nat} {m : mMM} {q : Int} (hr : r < 2147483648) (hn5 : n ≤ 5) : ∀ (c j : Nat), p + j + c + 1 = n → Ev (PP L xs) d 111 10 [some (vR (some 190)), some (vI q), some (vI ((p : Nat) : Int)), some (vI ((r / 5 ^ j : Nat) : Int)), some (vI ((p + c : Nat) : Int))] [] (HS t m) (.inl (some (vI ((r / 5 ^ (n - 1 - p) % 5 : Nat) : Int)))) (HS t m) := by
  intro c
  induction c with
  | zero =>
    intro j hj
    rw [show n - 1 - p = j by omega]
    refine ev_go (pc' := 13) (ls' := [some (vR (some 190)), some (vI q), some (vI ((p : Nat) : Int)), some (vI ((r / 5 ^ j : Nat) : Int)), some (vI ((p + 0 : Nat) : Int))]) (st' := [vI ((p : Nat) : Int), vI ((p + 0 : Nat) : Int)]) (h1 := HS t m) 2 (by rfl) ?_
    refine ev_ic5 rfl (inI_of (by omega) (by omega)) (inI_of (by omega) (by omega)) (fun c13 => ?_) (fun c13 => absurd c13 (by omega))
    refine ev_go (pc' := 28) (ls' := [some (vR (some 190)), some (vI q), some (vI ((p : Nat) : Int)), some (vI ((r / 5 ^ j : Nat) : Int)), some (vI ((p + 0 : Nat) : Int))]) (st' := [vI 5, vI ((r / 5 ^ j : Nat) : Int)]) (h1 := HS t m) 2 (by rfl) ?_
    refine ev_irem rfl (dv_in hr _) rfl (by omega) ?_
    show Ev (PP L xs) _ 111 29 [some (vR (some 190)), some (vI q), some (vI ((p : Nat) : Int)), some (vI ((r / 5 ^ j : Nat) : Int)), some (vI ((p + 0 : Nat) : Int))] [vI ((r / 5 ^ j % 5 : Nat) : Int)] (HS t m) _ _
    exact ev_retE rfl rfl rfl rfl
  | succ c IH =>
    intro j hj
    have h := IH (j + 1) (by omega)
    refine ev_go (pc' := 13) (ls' := [some (vR (some 190)), some (vI q), some (vI ((p : Nat) : Int)), some (vI ((r / 5 ^ j : Nat) : Int)), some (vI ((p + (c + 1) : Nat) : Int))]) (st' := [vI ((p : Nat) : Int), vI ((p + (c + 1) : Nat) : Int)]) (h1 := HS t m) 2 (by rfl) ?_
    refine ev_ic5 rfl (inI_of (by omega) (by omega)) (inI_of (by omega) (by omega)) (fun c13 => absurd c13 (by omega)) (fun c13 => ?_)
    refine ev_go (pc' := 18) (ls' := [some (vR (some 190)), some (vI q), some (vI ((p : Nat) : Int)), some (vI ((r / 5 ^ j : Nat) : Int)), some (vI ((p + (c + 1) : Nat) : Int))]) (st' := [vI 5, vI ((r / 5 ^ j : Nat) : Int)]) (h1 := HS t m) 2 (by rfl) ?_
    refine ev_idiv rfl (dv_in hr _) rfl (by omega) ?_
    show Ev (PP L xs) _ 111 19 [some (vR (some 190)), some (vI q), some (vI ((p : Nat) : Int)), some (vI ((r / 5 ^ j : Nat) : Int)), some (vI ((p + (c + 1) : Nat) : Int))] [vI ((r / 5 ^ j / 5 : Nat) : Int)] (HS t m) _ _
    refine ev_go (pc' := 10) (ls' := [some (vR (some 190)), some (vI q), some (vI ((p : Nat) : Int)), some (vI ((r / 5 ^ j / 5 : Nat) : Int)), some (vI (((p + (c + 1) : Nat) : Int) + (-1)))]) (st' := []) (h1 := HS t m) 3 (by rfl) ?_
    rw [show (((p + (c + 1) : Nat) : Int) + (-1)) = ((p + c : Nat) : Int) by omega, Nat.div_div_eq_div_mul, ← Nat.pow_succ]
    exact h
set_option maxRecDepth 10000 in
theorem m_tagAt {L : Nat} {xs : Nat → Int32} {d : Nat} {t : Bool × Nat × Nat} {m : mMM} {n p r : Nat} (hr : r < 2147483648) (hn : m 190 13 = (n : Int)) (hn5 : n ≤ 5) (hp : p < n) : Ev (PP L xs) d 111 0 (entL 5 [vR (some 190), vI ((r : Nat) : Int), vI ((p : Nat) : Int)]) [] (HS t m) (.inl (some (vI ((r / 5 ^ (n - 1 - p) % 5 : Nat) : Int)))) (HS t m) := by
  refine ev_go (pc' := 3) (ls' := [some (vR (some 190)), some (vI ((r : Nat) : Int)), some (vI ((p : Nat) : Int)), some (vI ((r : Nat) : Int)), none]) (st' := [vR (some 190)]) (h1 := HS t m) 3 (by rfl) ?_
  refine ev_getIv (v := ((n : Nat) : Int)) rfl rfl (hn) ?_
  refine ev_go (pc' := 10) (ls' := [some (vR (some 190)), some (vI ((r : Nat) : Int)), some (vI ((p : Nat) : Int)), some (vI ((r : Nat) : Int)), some (vI (((n : Nat) : Int) - 1))]) (st' := []) (h1 := HS t m) 3 (by rfl) ?_
  have h := ml_tagAt (L := L) (xs := xs) (t := t) (d := d) (m := m) (q := (r : Int)) (p := p) (n := n) hr hn5 (n - 1 - p) 0 (by omega)
  rw [Nat.pow_zero, Nat.div_one, show ((p + (n - 1 - p) : Nat) : Int) = (n : Int) - 1 by omega] at h
  exact h
