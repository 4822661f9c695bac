/-! ===== the class' calls: letter, tag, add, text, word, clear, lock, weight, step, texts (numbers alone) ===== -/
set_option maxRecDepth 10000 in
theorem x_letterX0 {L : Nat} {xs : Nat → Int32} {t : Bool × Nat × Nat} {m : mMM} {c : Int} (h : c < 97 ∨ 122 < c) (hI : inI c = true) : Ev (PP L xs) 9 62 0 (entL 2 [vR (some 1), vI c]) [] (HS t m) (.inr 0) (HS (tt t) m) := by
  refine ev_go (pc' := 3) (ls' := [some (vR (some 1)), some (vI c)]) (st' := [vI 97, vI c]) (h1 := HS t m) 2 (by rfl) ?_
  refine ev_ic2 rfl hI rfl (fun c3 => ?_) (fun c3 => ?_)
  · exact ev_thr (by omega) rfl rfl
  · refine ev_go (pc' := 9) (ls' := [some (vR (some 1)), some (vI c)]) (st' := [vI 122, vI c]) (h1 := HS t m) 2 (by rfl) ?_
    refine ev_ic5 rfl hI rfl (fun c9 => absurd c9 (by omega)) (fun c9 => ?_)
    exact ev_thr (by omega) rfl rfl
set_option maxRecDepth 10000 in
theorem x_letterX1 {L : Nat} {xs : Nat → Int32} {t : Bool × Nat × Nat} {m : mMM} {c : Int} (h : 97 ≤ c ∧ c ≤ 122) (hk : m 2 1 = 6) : Ev (PP L xs) 9 62 0 (entL 2 [vR (some 1), vI c]) [] (HS t m) (.inr 1) (HS (tt t) m) := by
  refine ev_go (pc' := 3) (ls' := [some (vR (some 1)), some (vI c)]) (st' := [vI 97, vI c]) (h1 := HS t m) 2 (by rfl) ?_
  refine ev_ic2 rfl (inI_of (by omega) (by omega)) rfl (fun c3 => absurd c3 (by omega)) (fun c3 => ?_)
  refine ev_go (pc' := 9) (ls' := [some (vR (some 1)), some (vI c)]) (st' := [vI 122, vI c]) (h1 := HS t m) 2 (by rfl) ?_
  refine ev_ic5 rfl (inI_of (by omega) (by omega)) rfl (fun c9 => ?_) (fun c9 => absurd c9 (by omega))
  refine ev_go (pc' := 23) (ls' := [some (vR (some 1)), some (vI c)]) (st' := [vR (some 1)]) (h1 := HS t m) 1 (by rfl) ?_
  refine ev_getR rfl rfl (rfl : rf 1 0 = some 2) ?_
  have hqc_tw_isFull := c_tw_isFull (L := L) (xs := xs) (t := t) (m := m) (d := 8) (by omega)
  rw [if_pos (by omega)] at hqc_tw_isFull
  refine ev_call rfl rfl (Nat.le_of_ble_eq_true rfl) hqc_tw_isFull ⟨Nat.le_refl _, Nat.le_refl _⟩ ?_
  show Ev (PP L xs) _ 62 29 [some (vR (some 1)), some (vI c)] [vI 1] (HS t m) _ _
  refine ev_if0 rfl rfl (fun c29 => absurd c29 (by decide)) (fun c29 => ?_)
  exact ev_thr (by omega) rfl rfl
set_option maxRecDepth 10000 in
theorem x_letter0 {L : Nat} {xs : Nat → Int32} {t : Bool × Nat × Nat} {m : mMM} {c : Int} (h : 97 ≤ c ∧ c ≤ 122) (hw : 0 ≤ m 2 0) (hw2 : m 2 0 < 33554432) (hk0 : 0 ≤ m 2 1) (hk : m 2 1 < 6) : Ev (PP L xs) 9 62 0 (entL 2 [vR (some 1), vI c]) [] (HS t m) (.inl (some (vI (m 2 1 + 1)))) (HS t (up (up m 2 0 (m 2 0 * 2 ^ 5 + (c - 97 + 1))) 2 1 (m 2 1 + 1))) := by
  refine ev_go (pc' := 3) (ls' := [some (vR (some 1)), some (vI c)]) (st' := [vI 97, vI c]) (h1 := HS t m) 2 (by rfl) ?_
  refine ev_ic2 rfl (inI_of (by omega) (by omega)) rfl (fun c3 => absurd c3 (by omega)) (fun c3 => ?_)
  refine ev_go (pc' := 9) (ls' := [some (vR (some 1)), some (vI c)]) (st' := [vI 122, vI c]) (h1 := HS t m) 2 (by rfl) ?_
  refine ev_ic5 rfl (inI_of (by omega) (by omega)) rfl (fun c9 => ?_) (fun c9 => absurd c9 (by omega))
  refine ev_go (pc' := 23) (ls' := [some (vR (some 1)), some (vI c)]) (st' := [vR (some 1)]) (h1 := HS t m) 1 (by rfl) ?_
  refine ev_getR rfl rfl (rfl : rf 1 0 = some 2) ?_
  have hqc_tw_isFull := c_tw_isFull (L := L) (xs := xs) (t := t) (m := m) (d := 8) (by omega)
  rw [if_neg (by omega)] at hqc_tw_isFull
  refine ev_call rfl rfl (Nat.le_of_ble_eq_true rfl) hqc_tw_isFull ⟨Nat.le_refl _, Nat.le_refl _⟩ ?_
  show Ev (PP L xs) _ 62 29 [some (vR (some 1)), some (vI c)] [vI 0] (HS t m) _ _
  refine ev_if0 rfl rfl (fun c29 => ?_) (fun c29 => absurd c29 (by decide))
  refine ev_go (pc' := 43) (ls' := [some (vR (some 1)), some (vI c)]) (st' := [vR (some 1)]) (h1 := HS t m) 1 (by rfl) ?_
  refine ev_getR rfl rfl (rfl : rf 1 0 = some 2) ?_
  refine ev_go (pc' := 47) (ls' := [some (vR (some 1)), some (vI c)]) (st' := [vI c, vR (some 2)]) (h1 := HS t m) 1 (by rfl) ?_
  refine ev_call rfl rfl (Nat.le_of_ble_eq_true rfl) (c_tw_append hw hw2 h.1 h.2) ⟨Nat.le_refl _, Nat.le_refl _⟩ ?_
  show Ev (PP L xs) _ 62 50 [some (vR (some 1)), some (vI c)] [vI (m 2 1 + 1)] (HS t (up (up m 2 0 (m 2 0 * 2 ^ 5 + (c - 97 + 1))) 2 1 (m 2 1 + 1))) _ _
  exact ev_retE rfl rfl (by first | rfl | (simp [*]; done) | (split <;> first | rfl | (exfalso; omega))) (by first | rfl | (simp [*]; done) | (split <;> first | rfl | (exfalso; omega)))
set_option maxRecDepth 10000 in
theorem x_tagX2 {L : Nat} {xs : Nat → Int32} {t : Bool × Nat × Nat} {m : mMM} {x : Int} (h : x < 0 ∨ 5 ≤ x) (hI : inI x = true) : Ev (PP L xs) 9 63 0 (entL 3 [vR (some 1), vI x]) [] (HS t m) (.inr 2) (HS (tt t) m) := by
  refine ev_go (pc' := 1) (ls' := [some (vR (some 1)), some (vI x), none]) (st' := [vI x]) (h1 := HS t m) 1 (by rfl) ?_
  exact ev_callX rfl rfl (Nat.le_of_ble_eq_true rfl) (c_reqTagX (by omega) hI h) ⟨Nat.le_succ _, Nat.le_add_right _ _⟩ rfl
set_option maxRecDepth 10000 in
theorem x_tagX1 {L : Nat} {xs : Nat → Int32} {t : Bool × Nat × Nat} {m : mMM} {g : Nat} (hg : g < 5) (hk : m 2 1 = 0) : Ev (PP L xs) 9 63 0 (entL 3 [vR (some 1), vI ((g : Nat) : Int)]) [] (HS t m) (.inr 1) (HS (tt t) m) := by
  refine ev_go (pc' := 1) (ls' := [some (vR (some 1)), some (vI ((g : Nat) : Int)), none]) (st' := [vI ((g : Nat) : Int)]) (h1 := HS t m) 1 (by rfl) ?_
  refine ev_call rfl rfl (Nat.le_of_ble_eq_true rfl) (c_reqTag hg) ⟨Nat.le_refl _, Nat.le_refl _⟩ ?_
  show Ev (PP L xs) _ 63 4 [some (vR (some 1)), some (vI ((g : Nat) : Int)), none] [] (HS t m) _ _
  refine ev_go (pc' := 5) (ls' := [some (vR (some 1)), some (vI ((g : Nat) : Int)), none]) (st' := [vR (some 1)]) (h1 := HS t m) 1 (by rfl) ?_
  exact ev_callX rfl rfl (Nat.le_of_ble_eq_true rfl) (c_reqTypedX (by omega) hk) ⟨Nat.le_succ _, Nat.le_add_right _ _⟩ rfl
set_option maxRecDepth 10000 in
theorem x_tagX3 {L : Nat} {xs : Nat → Int32} {t : Bool × Nat × Nat} {m : mMM} {g n z : Nat} (hg : g < 5) (hk : 0 < m 2 1 ∧ m 2 1 ≤ 6) (hn : m 3 3 = (n : Int)) (hn20 : n ≤ 20) (hz : m (tx n) 2 = (z : Int)) (hz6 : z = 6) : Ev (PP L xs) 9 63 0 (entL 3 [vR (some 1), vI ((g : Nat) : Int)]) [] (HS t m) (.inr 1) (HS (tt t) m) := by
  refine ev_go (pc' := 1) (ls' := [some (vR (some 1)), some (vI ((g : Nat) : Int)), none]) (st' := [vI ((g : Nat) : Int)]) (h1 := HS t m) 1 (by rfl) ?_
  refine ev_call rfl rfl (Nat.le_of_ble_eq_true rfl) (c_reqTag hg) ⟨Nat.le_refl _, Nat.le_refl _⟩ ?_
  show Ev (PP L xs) _ 63 4 [some (vR (some 1)), some (vI ((g : Nat) : Int)), none] [] (HS t m) _ _
  refine ev_go (pc' := 5) (ls' := [some (vR (some 1)), some (vI ((g : Nat) : Int)), none]) (st' := [vR (some 1)]) (h1 := HS t m) 1 (by rfl) ?_
  refine ev_call rfl rfl (Nat.le_of_ble_eq_true rfl) (c_reqTyped hk) ⟨Nat.le_refl _, Nat.le_refl _⟩ ?_
  show Ev (PP L xs) _ 63 8 [some (vR (some 1)), some (vI ((g : Nat) : Int)), none] [] (HS t m) _ _
  refine ev_go (pc' := 9) (ls' := [some (vR (some 1)), some (vI ((g : Nat) : Int)), none]) (st' := [vR (some 1)]) (h1 := HS t m) 1 (by rfl) ?_
  refine ev_getR rfl rfl (rfl : rf 1 1 = some 3) ?_
  refine ev_call rfl rfl (Nat.le_of_ble_eq_true rfl) (c_co_draft hn (by omega)) ⟨Nat.le_refl _, Nat.le_refl _⟩ ?_
  show Ev (PP L xs) _ 63 15 [some (vR (some 1)), some (vI ((g : Nat) : Int)), none] [vR (some (tx n))] (HS t m) _ _
  refine ev_go (pc' := 17) (ls' := [some (vR (some 1)), some (vI ((g : Nat) : Int)), some (vR (some (tx n)))]) (st' := [vR (some (tx n))]) (h1 := HS t m) 2 (by rfl) ?_
  have hqc_tx_isFull := c_tx_isFull (L := L) (xs := xs) (t := t) (m := m) (d := 8) (TX_tx (i := n) (by omega)) (by rw [hz]; exact inI_of (by omega) (by omega))
  rw [hz, if_pos (by omega)] at hqc_tx_isFull
  refine ev_call rfl (hs_callV (i := 46) (c := 5) (n := 0) (nx := 20) (a := (tx n)) (as := []) (ls := [some (vR (some 1)), some (vI ((g : Nat) : Int)), some (vR (some (tx n)))]) (st := [vR (some (tx n))]) rfl (TX_tx (i := n) (by omega)).1 rfl rfl) (Nat.le_of_ble_eq_true rfl) hqc_tx_isFull ⟨Nat.le_refl _, Nat.le_refl _⟩ ?_
  show Ev (PP L xs) _ 63 20 [some (vR (some 1)), some (vI ((g : Nat) : Int)), some (vR (some (tx n)))] [vI 1] (HS t m) _ _
  refine ev_if0 rfl rfl (fun c20 => absurd c20 (by decide)) (fun c20 => ?_)
  exact ev_thr (by omega) rfl rfl
set_option maxRecDepth 10000 in
theorem x_tag0 {L : Nat} {xs : Nat → Int32} {t : Bool × Nat × Nat} {m : mMM} {g n z : Nat} (hg : g < 5) (hk : 0 < m 2 1 ∧ m 2 1 ≤ 6) (hn : m 3 3 = (n : Int)) (hn20 : n ≤ 20) (hz : m (tx n) 2 = (z : Int)) (hz6 : z < 6) : Ev (PP L xs) 9 63 0 (entL 3 [vR (some 1), vI ((g : Nat) : Int)]) [] (HS t m) (.inl (some (vI ((z + 1 : Nat) : Int)))) (HS t (up (up (up (up (up m 2 0 0) 2 1 0) (tx n + 1) z (m 2 0)) (tx n + 2) z ((g : Nat) : Int)) (tx n) 2 ((z + 1 : Nat) : Int))) := by
  refine ev_go (pc' := 1) (ls' := [some (vR (some 1)), some (vI ((g : Nat) : Int)), none]) (st' := [vI ((g : Nat) : Int)]) (h1 := HS t m) 1 (by rfl) ?_
  refine ev_call rfl rfl (Nat.le_of_ble_eq_true rfl) (c_reqTag hg) ⟨Nat.le_refl _, Nat.le_refl _⟩ ?_
  show Ev (PP L xs) _ 63 4 [some (vR (some 1)), some (vI ((g : Nat) : Int)), none] [] (HS t m) _ _
  refine ev_go (pc' := 5) (ls' := [some (vR (some 1)), some (vI ((g : Nat) : Int)), none]) (st' := [vR (some 1)]) (h1 := HS t m) 1 (by rfl) ?_
  refine ev_call rfl rfl (Nat.le_of_ble_eq_true rfl) (c_reqTyped hk) ⟨Nat.le_refl _, Nat.le_refl _⟩ ?_
  show Ev (PP L xs) _ 63 8 [some (vR (some 1)), some (vI ((g : Nat) : Int)), none] [] (HS t m) _ _
  refine ev_go (pc' := 9) (ls' := [some (vR (some 1)), some (vI ((g : Nat) : Int)), none]) (st' := [vR (some 1)]) (h1 := HS t m) 1 (by rfl) ?_
  refine ev_getR rfl rfl (rfl : rf 1 1 = some 3) ?_
  refine ev_call rfl rfl (Nat.le_of_ble_eq_true rfl) (c_co_draft hn (by omega)) ⟨Nat.le_refl _, Nat.le_refl _⟩ ?_
  show Ev (PP L xs) _ 63 15 [some (vR (some 1)), some (vI ((g : Nat) : Int)), none] [vR (some (tx n))] (HS t m) _ _
  refine ev_go (pc' := 17) (ls' := [some (vR (some 1)), some (vI ((g : Nat) : Int)), some (vR (some (tx n)))]) (st' := [vR (some (tx n))]) (h1 := HS t m) 2 (by rfl) ?_
  have hqc_tx_isFull := c_tx_isFull (L := L) (xs := xs) (t := t) (m := m) (d := 8) (TX_tx (i := n) (by omega)) (by rw [hz]; exact inI_of (by omega) (by omega))
  rw [hz, if_neg (by omega)] at hqc_tx_isFull
  refine ev_call rfl (hs_callV (i := 46) (c := 5) (n := 0) (nx := 20) (a := (tx n)) (as := []) (ls := [some (vR (some 1)), some (vI ((g : Nat) : Int)), some (vR (some (tx n)))]) (st := [vR (some (tx n))]) rfl (TX_tx (i := n) (by omega)).1 rfl rfl) (Nat.le_of_ble_eq_true rfl) hqc_tx_isFull ⟨Nat.le_refl _, Nat.le_refl _⟩ ?_
  show Ev (PP L xs) _ 63 20 [some (vR (some 1)), some (vI ((g : Nat) : Int)), some (vR (some (tx n)))] [vI 0] (HS t m) _ _
  refine ev_if0 rfl rfl (fun c20 => ?_) (fun c20 => absurd c20 (by decide))
  refine ev_go (pc' := 35) (ls' := [some (vR (some 1)), some (vI ((g : Nat) : Int)), some (vR (some (tx n)))]) (st' := [vR (some 1), vR (some (tx n))]) (h1 := HS t m) 2 (by rfl) ?_
  refine ev_getR rfl rfl (rfl : rf 1 0 = some 2) ?_
  refine ev_call rfl rfl (Nat.le_of_ble_eq_true rfl) c_tw_take ⟨Nat.le_refl _, Nat.le_refl _⟩ ?_
  show Ev (PP L xs) _ 63 41 [some (vR (some 1)), some (vI ((g : Nat) : Int)), some (vR (some (tx n)))] [vI (m 2 0), vR (some (tx n))] (HS t (up (up m 2 0 0) 2 1 0)) _ _
  refine ev_go (pc' := 42) (ls' := [some (vR (some 1)), some (vI ((g : Nat) : Int)), some (vR (some (tx n)))]) (st' := [vI ((g : Nat) : Int), vI (m 2 0), vR (some (tx n))]) (h1 := HS t (up (up m 2 0 0) 2 1 0)) 1 (by rfl) ?_
  have e12 : tx n = 12 + 3 * n := rfl
  refine ev_call rfl (hs_callV (i := 47) (c := 5) (n := 2) (nx := 45) (a := (tx n)) (as := [vI (m 2 0), vI ((g : Nat) : Int)]) (ls := [some (vR (some 1)), some (vI ((g : Nat) : Int)), some (vR (some (tx n)))]) (st := [vI ((g : Nat) : Int), vI (m 2 0), vR (some (tx n))]) rfl (TX_tx (i := n) (by omega)).1 rfl rfl) (Nat.le_of_ble_eq_true rfl) (c_tx_append (TX_tx (i := n) (by omega)) (by rw [up_ne1 _ _ (by omega), up_ne1 _ _ (by omega)]; exact hz) hz6) ⟨Nat.le_refl _, Nat.le_refl _⟩ ?_
  show Ev (PP L xs) _ 63 45 [some (vR (some 1)), some (vI ((g : Nat) : Int)), some (vR (some (tx n)))] [vI ((z + 1 : Nat) : Int)] (HS t (up (up (up (up (up m 2 0 0) 2 1 0) (tx n + 1) z (m 2 0)) (tx n + 2) z ((g : Nat) : Int)) (tx n) 2 ((z + 1 : Nat) : Int))) _ _
  exact ev_retE rfl rfl (by first | rfl | (simp [*]; done) | (split <;> first | rfl | (exfalso; omega))) (by first | rfl | (simp [*]; done) | (split <;> first | rfl | (exfalso; omega)))
set_option maxRecDepth 10000 in
theorem x_addX1 {L : Nat} {xs : Nat → Int32} {t : Bool × Nat × Nat} {m : mMM} {n : Nat} (hn : m 3 3 = (n : Int)) (hn20 : n ≤ 20) (hz : m (tx n) 2 = 0) : Ev (PP L xs) 9 64 0 (entL 1 [vR (some 1)]) [] (HS t m) (.inr 1) (HS (tt t) m) := by
  refine ev_go (pc' := 1) (ls' := [some (vR (some 1))]) (st' := [vR (some 1)]) (h1 := HS t m) 1 (by rfl) ?_
  refine ev_getR rfl rfl (rfl : rf 1 1 = some 3) ?_
  refine ev_call rfl rfl (Nat.le_of_ble_eq_true rfl) (c_co_draft hn (by omega)) ⟨Nat.le_refl _, Nat.le_refl _⟩ ?_
  show Ev (PP L xs) _ 64 7 [some (vR (some 1))] [vR (some (tx n))] (HS t m) _ _
  have hq := c_tx_isEmpty (L := L) (xs := xs) (t := t) (m := m) (d := 8) (TX_tx (i := n) (by omega)) (by rw [hz]; rfl)
  rw [hz, if_pos rfl] at hq
  refine ev_call rfl (hs_callV (i := 45) (c := 5) (n := 0) (nx := 10) (a := (tx n)) (as := []) (ls := [some (vR (some 1))]) (st := [vR (some (tx n))]) rfl (TX_tx (i := n) (by omega)).1 rfl rfl) (Nat.le_of_ble_eq_true rfl) hq ⟨Nat.le_refl _, Nat.le_refl _⟩ ?_
  show Ev (PP L xs) _ 64 10 [some (vR (some 1))] [vI 1] (HS t m) _ _
  refine ev_if0 rfl rfl (fun c10 => absurd c10 (by decide)) (fun c10 => ?_)
  exact ev_thr (by omega) rfl rfl
set_option maxRecDepth 10000 in
theorem x_addX2 {L : Nat} {xs : Nat → Int32} {t : Bool × Nat × Nat} {m : mMM} {n z : Nat} (hn : m 3 3 = (n : Int)) (hn20 : n = 20) (hz : m (tx n) 2 = (z : Int)) (hz6 : z ≤ 6) (hz0 : 0 < z) : Ev (PP L xs) 9 64 0 (entL 1 [vR (some 1)]) [] (HS t m) (.inr 1) (HS (tt t) m) := by
  refine ev_go (pc' := 1) (ls' := [some (vR (some 1))]) (st' := [vR (some 1)]) (h1 := HS t m) 1 (by rfl) ?_
  refine ev_getR rfl rfl (rfl : rf 1 1 = some 3) ?_
  refine ev_call rfl rfl (Nat.le_of_ble_eq_true rfl) (c_co_draft hn (by omega)) ⟨Nat.le_refl _, Nat.le_refl _⟩ ?_
  show Ev (PP L xs) _ 64 7 [some (vR (some 1))] [vR (some (tx n))] (HS t m) _ _
  have hqc_tx_isEmpty := c_tx_isEmpty (L := L) (xs := xs) (t := t) (m := m) (d := 8) (TX_tx (i := n) (by omega)) (by rw [hz]; exact inI_of (by omega) (by omega))
  rw [hz, if_neg (by omega)] at hqc_tx_isEmpty
  refine ev_call rfl (hs_callV (i := 45) (c := 5) (n := 0) (nx := 10) (a := (tx n)) (as := []) (ls := [some (vR (some 1))]) (st := [vR (some (tx n))]) rfl (TX_tx (i := n) (by omega)).1 rfl rfl) (Nat.le_of_ble_eq_true rfl) hqc_tx_isEmpty ⟨Nat.le_refl _, Nat.le_refl _⟩ ?_
  show Ev (PP L xs) _ 64 10 [some (vR (some 1))] [vI 0] (HS t m) _ _
  refine ev_if0 rfl rfl (fun c10 => ?_) (fun c10 => absurd c10 (by decide))
  refine ev_go (pc' := 24) (ls' := [some (vR (some 1))]) (st' := [vR (some 1)]) (h1 := HS t m) 1 (by rfl) ?_
  refine ev_getR rfl rfl (rfl : rf 1 1 = some 3) ?_
  have hq := c_co_isFull (L := L) (xs := xs) (t := t) (m := m) (d := 8) hn (by omega)
  rw [if_pos (by omega)] at hq
  refine ev_call rfl rfl (Nat.le_of_ble_eq_true rfl) hq ⟨Nat.le_refl _, Nat.le_refl _⟩ ?_
  show Ev (PP L xs) _ 64 30 [some (vR (some 1))] [vI 1] (HS t m) _ _
  refine ev_if0 rfl rfl (fun c30 => absurd c30 (by decide)) (fun c30 => ?_)
  exact ev_thr (by omega) rfl rfl
set_option maxRecDepth 10000 in
theorem x_add0 {L : Nat} {xs : Nat → Int32} {t : Bool × Nat × Nat} {n : Nat} {m : mMM} {l : List (Int × Nat)} {s : Nat → Nat → Int} (hn : m 3 3 = (n : Int)) (hn20 : n < 20) (hl0 : 0 < l.length) (hW : WT l) (ht : TXR m (tx n) l) (hs : SR m s) (hc : m (tx n) 3 = 0) : ∃ m', Ev (PP L xs) 9 64 0 (entL 1 [vR (some 1)]) [] (HS t m) (.inl (some (vI (n : Int)))) (HS t m') ∧ SR m' (chF 1 l (l.length - 1) 1 s) ∧ FRs (up (up (up (up m 3 3 ((n + 1 : Nat) : Int)) (tx n) 3 1) 3 4 (m 3 4 + 1)) 5 (gt l 0).2 (m 5 (gt l 0).2 + 1)) m' := by
  have hz6 := ht.2.1
  have hz := ht.1
  obtain ⟨m1, hE, h1, h2⟩ := c_keep (L := L) (xs := xs) (t := t) (d := 6) hn (by omega) hl0 hW ht hs hc
  refine ⟨m1, ?_, h1, h2⟩
  generalize l.length = z at *
  refine ev_go (pc' := 1) (ls' := [some (vR (some 1))]) (st' := [vR (some 1)]) (h1 := HS t m) 1 (by rfl) ?_
  refine ev_getR rfl rfl (rfl : rf 1 1 = some 3) ?_
  refine ev_call rfl rfl (Nat.le_of_ble_eq_true rfl) (c_co_draft hn (by omega)) ⟨Nat.le_refl _, Nat.le_refl _⟩ ?_
  show Ev (PP L xs) _ 64 7 [some (vR (some 1))] [vR (some (tx n))] (HS t m) _ _
  have hqc_tx_isEmpty := c_tx_isEmpty (L := L) (xs := xs) (t := t) (m := m) (d := 8) (TX_tx (i := n) (by omega)) (by rw [hz]; exact inI_of (by omega) (by omega))
  rw [hz, if_neg (by omega)] at hqc_tx_isEmpty
  refine ev_call rfl (hs_callV (i := 45) (c := 5) (n := 0) (nx := 10) (a := (tx n)) (as := []) (ls := [some (vR (some 1))]) (st := [vR (some (tx n))]) rfl (TX_tx (i := n) (by omega)).1 rfl rfl) (Nat.le_of_ble_eq_true rfl) hqc_tx_isEmpty ⟨Nat.le_refl _, Nat.le_refl _⟩ ?_
  show Ev (PP L xs) _ 64 10 [some (vR (some 1))] [vI 0] (HS t m) _ _
  refine ev_if0 rfl rfl (fun c10 => ?_) (fun c10 => absurd c10 (by decide))
  refine ev_go (pc' := 24) (ls' := [some (vR (some 1))]) (st' := [vR (some 1)]) (h1 := HS t m) 1 (by rfl) ?_
  refine ev_getR rfl rfl (rfl : rf 1 1 = some 3) ?_
  have hq := c_co_isFull (L := L) (xs := xs) (t := t) (m := m) (d := 8) hn (by omega)
  rw [if_neg (by omega)] at hq
  refine ev_call rfl rfl (Nat.le_of_ble_eq_true rfl) hq ⟨Nat.le_refl _, Nat.le_refl _⟩ ?_
  show Ev (PP L xs) _ 64 30 [some (vR (some 1))] [vI 0] (HS t m) _ _
  refine ev_if0 rfl rfl (fun c30 => ?_) (fun c30 => absurd c30 (by decide))
  refine ev_go (pc' := 44) (ls' := [some (vR (some 1))]) (st' := [vR (some 1)]) (h1 := HS t m) 1 (by rfl) ?_
  refine ev_getR rfl rfl (rfl : rf 1 1 = some 3) ?_
  refine ev_call rfl rfl (Nat.le_of_ble_eq_true rfl) hE ⟨Nat.le_refl _, Nat.le_refl _⟩ ?_
  show Ev (PP L xs) _ 64 50 [some (vR (some 1))] [vI ((n : Nat) : Int)] (HS t m1) _ _
  exact ev_retE rfl rfl (by first | rfl | (simp [*]; done) | (split <;> first | rfl | (exfalso; omega))) (by first | rfl | (simp [*]; done) | (split <;> first | rfl | (exfalso; omega)))
set_option maxRecDepth 10000 in
theorem x_textX2 {L : Nat} {xs : Nat → Int32} {t : Bool × Nat × Nat} {m : mMM} {n : Nat} {x b : Int} (hn : m 3 3 = (n : Int)) (hn20 : n ≤ 20) (hI : -2147483648 ≤ x ∧ x < 2147483648) (h : x < 0 ∨ (n : Int) ≤ x) : Ev (PP L xs) 9 65 0 (entL 3 [vR (some 1), vI x, vI b]) [] (HS t m) (.inr 2) (HS (tt t) m) := by
  refine ev_go (pc' := 1) (ls' := [some (vR (some 1)), some (vI x), some (vI b)]) (st' := [vR (some 1)]) (h1 := HS t m) 1 (by rfl) ?_
  refine ev_getR rfl rfl (rfl : rf 1 1 = some 3) ?_
  refine ev_go (pc' := 5) (ls' := [some (vR (some 1)), some (vI x), some (vI b)]) (st' := [vI x, vR (some 3)]) (h1 := HS t m) 1 (by rfl) ?_
  have hq := c_co_holds (L := L) (xs := xs) (t := t) (m := m) (d := 8) (x := x) hn (by omega) (inI_of (by omega) (by omega))
  rw [if_neg (by omega)] at hq
  refine ev_call rfl rfl (Nat.le_of_ble_eq_true rfl) hq ⟨Nat.le_refl _, Nat.le_refl _⟩ ?_
  show Ev (PP L xs) _ 65 8 [some (vR (some 1)), some (vI x), some (vI b)] [vI 0] (HS t m) _ _
  refine ev_if1 rfl rfl (fun c8 => absurd c8 (by decide)) (fun c8 => ?_)
  exact ev_thr (by omega) rfl rfl
set_option maxRecDepth 10000 in
theorem x_textS0 {L : Nat} {xs : Nat → Int32} {t : Bool × Nat × Nat} {m : mMM} {n i : Nat} (hn : m 3 3 = (n : Int)) (hn20 : n ≤ 20) (hi : i < n) (hc : m (tx i) 3 = 0) : Ev (PP L xs) 9 65 0 (entL 3 [vR (some 1), vI ((i : Nat) : Int), vI 0]) [] (HS t m) (.inl (some (vI 0))) (HS t m) := by
  refine ev_go (pc' := 1) (ls' := [some (vR (some 1)), some (vI ((i : Nat) : Int)), some (vI 0)]) (st' := [vR (some 1)]) (h1 := HS t m) 1 (by rfl) ?_
  refine ev_getR rfl rfl (rfl : rf 1 1 = some 3) ?_
  refine ev_go (pc' := 5) (ls' := [some (vR (some 1)), some (vI ((i : Nat) : Int)), some (vI 0)]) (st' := [vI ((i : Nat) : Int), vR (some 3)]) (h1 := HS t m) 1 (by rfl) ?_
  have hq := c_co_holds (L := L) (xs := xs) (t := t) (m := m) (d := 8) (x := ((i : Nat) : Int)) hn (by omega) (inI_of (by omega) (by omega))
  rw [if_pos (by omega)] at hq
  refine ev_call rfl rfl (Nat.le_of_ble_eq_true rfl) hq ⟨Nat.le_refl _, Nat.le_refl _⟩ ?_
  show Ev (PP L xs) _ 65 8 [some (vR (some 1)), some (vI ((i : Nat) : Int)), some (vI 0)] [vI 1] (HS t m) _ _
  refine ev_if1 rfl rfl (fun c8 => ?_) (fun c8 => absurd c8 (by decide))
  refine ev_go (pc' := 22) (ls' := [some (vR (some 1)), some (vI ((i : Nat) : Int)), some (vI 0)]) (st' := [vR (some 1)]) (h1 := HS t m) 1 (by rfl) ?_
  refine ev_getR rfl rfl (rfl : rf 1 1 = some 3) ?_
  refine ev_go (pc' := 27) (ls' := [some (vR (some 1)), some (vI ((i : Nat) : Int)), some (vI 0)]) (st' := [vI 0, vI ((i : Nat) : Int), vR (some 3)]) (h1 := HS t m) 2 (by rfl) ?_
  refine ev_call rfl rfl (Nat.le_of_ble_eq_true rfl) (c_letS0 (by omega) hc) ⟨Nat.le_refl _, Nat.le_refl _⟩ ?_
  show Ev (PP L xs) _ 65 30 [some (vR (some 1)), some (vI ((i : Nat) : Int)), some (vI 0)] [vI 0] (HS t m) _ _
  exact ev_retE rfl rfl (by first | rfl | (simp [*]; done) | (split <;> first | rfl | (exfalso; omega))) (by first | rfl | (simp [*]; done) | (split <;> first | rfl | (exfalso; omega)))
set_option maxRecDepth 10000 in
theorem x_text0 {L : Nat} {xs : Nat → Int32} {t : Bool × Nat × Nat} {n i : Nat} {m : mMM} {l : List (Int × Nat)} {s : Nat → Nat → Int} (hn : m 3 3 = (n : Int)) (hn20 : n ≤ 20) (hi : i < n) (hl0 : 0 < l.length) (hW : WT l) (ht : TXR m (tx i) l) (hs : SR m s) (hc : m (tx i) 3 = 1) : ∃ m', Ev (PP L xs) 9 65 0 (entL 3 [vR (some 1), vI (i : Int), vI 0]) [] (HS t m) (.inl (some (vI 1))) (HS t m') ∧ SR m' (chF (-1) l (l.length - 1) 1 s) ∧ FRs (up (up (up m (tx i) 3 0) 3 4 (m 3 4 + (-1))) 5 (gt l 0).2 (m 5 (gt l 0).2 + (-1))) m' := by
  obtain ⟨m1, hE, h1, h2⟩ := c_let0 (L := L) (xs := xs) (t := t) (d := 7) (m := m) (i := i) (by omega) hl0 hW ht hs hc
  refine ⟨m1, ?_, h1, h2⟩
  refine ev_go (pc' := 1) (ls' := [some (vR (some 1)), some (vI ((i : Nat) : Int)), some (vI 0)]) (st' := [vR (some 1)]) (h1 := HS t m) 1 (by rfl) ?_
  refine ev_getR rfl rfl (rfl : rf 1 1 = some 3) ?_
  refine ev_go (pc' := 5) (ls' := [some (vR (some 1)), some (vI ((i : Nat) : Int)), some (vI 0)]) (st' := [vI ((i : Nat) : Int), vR (some 3)]) (h1 := HS t m) 1 (by rfl) ?_
  have hq := c_co_holds (L := L) (xs := xs) (t := t) (m := m) (d := 8) (x := ((i : Nat) : Int)) hn (by omega) (inI_of (by omega) (by omega))
  rw [if_pos (by omega)] at hq
  refine ev_call rfl rfl (Nat.le_of_ble_eq_true rfl) hq ⟨Nat.le_refl _, Nat.le_refl _⟩ ?_
  show Ev (PP L xs) _ 65 8 [some (vR (some 1)), some (vI ((i : Nat) : Int)), some (vI 0)] [vI 1] (HS t m) _ _
  refine ev_if1 rfl rfl (fun c8 => ?_) (fun c8 => absurd c8 (by decide))
  refine ev_go (pc' := 22) (ls' := [some (vR (some 1)), some (vI ((i : Nat) : Int)), some (vI 0)]) (st' := [vR (some 1)]) (h1 := HS t m) 1 (by rfl) ?_
  refine ev_getR rfl rfl (rfl : rf 1 1 = some 3) ?_
  refine ev_go (pc' := 27) (ls' := [some (vR (some 1)), some (vI ((i : Nat) : Int)), some (vI 0)]) (st' := [vI 0, vI ((i : Nat) : Int), vR (some 3)]) (h1 := HS t m) 2 (by rfl) ?_
  refine ev_call rfl rfl (Nat.le_of_ble_eq_true rfl) hE ⟨Nat.le_refl _, Nat.le_refl _⟩ ?_
  show Ev (PP L xs) _ 65 30 [some (vR (some 1)), some (vI ((i : Nat) : Int)), some (vI 0)] [vI 1] (HS t m1) _ _
  exact ev_retE rfl rfl (by first | rfl | (simp [*]; done) | (split <;> first | rfl | (exfalso; omega))) (by first | rfl | (simp [*]; done) | (split <;> first | rfl | (exfalso; omega)))
set_option maxRecDepth 10000 in
theorem x_textS1 {L : Nat} {xs : Nat → Int32} {t : Bool × Nat × Nat} {m : mMM} {n i : Nat} (hn : m 3 3 = (n : Int)) (hn20 : n ≤ 20) (hi : i < n) (hc : m (tx i) 3 = 1) : Ev (PP L xs) 9 65 0 (entL 3 [vR (some 1), vI ((i : Nat) : Int), vI 1]) [] (HS t m) (.inl (some (vI 1))) (HS t m) := by
  refine ev_go (pc' := 1) (ls' := [some (vR (some 1)), some (vI ((i : Nat) : Int)), some (vI 1)]) (st' := [vR (some 1)]) (h1 := HS t m) 1 (by rfl) ?_
  refine ev_getR rfl rfl (rfl : rf 1 1 = some 3) ?_
  refine ev_go (pc' := 5) (ls' := [some (vR (some 1)), some (vI ((i : Nat) : Int)), some (vI 1)]) (st' := [vI ((i : Nat) : Int), vR (some 3)]) (h1 := HS t m) 1 (by rfl) ?_
  have hq := c_co_holds (L := L) (xs := xs) (t := t) (m := m) (d := 8) (x := ((i : Nat) : Int)) hn (by omega) (inI_of (by omega) (by omega))
  rw [if_pos (by omega)] at hq
  refine ev_call rfl rfl (Nat.le_of_ble_eq_true rfl) hq ⟨Nat.le_refl _, Nat.le_refl _⟩ ?_
  show Ev (PP L xs) _ 65 8 [some (vR (some 1)), some (vI ((i : Nat) : Int)), some (vI 1)] [vI 1] (HS t m) _ _
  refine ev_if1 rfl rfl (fun c8 => ?_) (fun c8 => absurd c8 (by decide))
  refine ev_go (pc' := 22) (ls' := [some (vR (some 1)), some (vI ((i : Nat) : Int)), some (vI 1)]) (st' := [vR (some 1)]) (h1 := HS t m) 1 (by rfl) ?_
  refine ev_getR rfl rfl (rfl : rf 1 1 = some 3) ?_
  refine ev_go (pc' := 27) (ls' := [some (vR (some 1)), some (vI ((i : Nat) : Int)), some (vI 1)]) (st' := [vI 1, vI ((i : Nat) : Int), vR (some 3)]) (h1 := HS t m) 2 (by rfl) ?_
  refine ev_call rfl rfl (Nat.le_of_ble_eq_true rfl) (c_letS1 (by omega) hc) ⟨Nat.le_refl _, Nat.le_refl _⟩ ?_
  show Ev (PP L xs) _ 65 30 [some (vR (some 1)), some (vI ((i : Nat) : Int)), some (vI 1)] [vI 1] (HS t m) _ _
  exact ev_retE rfl rfl (by first | rfl | (simp [*]; done) | (split <;> first | rfl | (exfalso; omega))) (by first | rfl | (simp [*]; done) | (split <;> first | rfl | (exfalso; omega)))
set_option maxRecDepth 10000 in
theorem x_text1 {L : Nat} {xs : Nat → Int32} {t : Bool × Nat × Nat} {n i : Nat} {m : mMM} {l : List (Int × Nat)} {s : Nat → Nat → Int} (hn : m 3 3 = (n : Int)) (hn20 : n ≤ 20) (hi : i < n) (hl0 : 0 < l.length) (hW : WT l) (ht : TXR m (tx i) l) (hs : SR m s) (hc : m (tx i) 3 = 0) : ∃ m', Ev (PP L xs) 9 65 0 (entL 3 [vR (some 1), vI (i : Int), vI 1]) [] (HS t m) (.inl (some (vI 0))) (HS t m') ∧ SR m' (chF 1 l (l.length - 1) 1 s) ∧ FRs (up (up (up m (tx i) 3 1) 3 4 (m 3 4 + 1)) 5 (gt l 0).2 (m 5 (gt l 0).2 + 1)) m' := by
  obtain ⟨m1, hE, h1, h2⟩ := c_let1 (L := L) (xs := xs) (t := t) (d := 7) (m := m) (i := i) (by omega) hl0 hW ht hs hc
  refine ⟨m1, ?_, h1, h2⟩
  refine ev_go (pc' := 1) (ls' := [some (vR (some 1)), some (vI ((i : Nat) : Int)), some (vI 1)]) (st' := [vR (some 1)]) (h1 := HS t m) 1 (by rfl) ?_
  refine ev_getR rfl rfl (rfl : rf 1 1 = some 3) ?_
  refine ev_go (pc' := 5) (ls' := [some (vR (some 1)), some (vI ((i : Nat) : Int)), some (vI 1)]) (st' := [vI ((i : Nat) : Int), vR (some 3)]) (h1 := HS t m) 1 (by rfl) ?_
  have hq := c_co_holds (L := L) (xs := xs) (t := t) (m := m) (d := 8) (x := ((i : Nat) : Int)) hn (by omega) (inI_of (by omega) (by omega))
  rw [if_pos (by omega)] at hq
  refine ev_call rfl rfl (Nat.le_of_ble_eq_true rfl) hq ⟨Nat.le_refl _, Nat.le_refl _⟩ ?_
  show Ev (PP L xs) _ 65 8 [some (vR (some 1)), some (vI ((i : Nat) : Int)), some (vI 1)] [vI 1] (HS t m) _ _
  refine ev_if1 rfl rfl (fun c8 => ?_) (fun c8 => absurd c8 (by decide))
  refine ev_go (pc' := 22) (ls' := [some (vR (some 1)), some (vI ((i : Nat) : Int)), some (vI 1)]) (st' := [vR (some 1)]) (h1 := HS t m) 1 (by rfl) ?_
  refine ev_getR rfl rfl (rfl : rf 1 1 = some 3) ?_
  refine ev_go (pc' := 27) (ls' := [some (vR (some 1)), some (vI ((i : Nat) : Int)), some (vI 1)]) (st' := [vI 1, vI ((i : Nat) : Int), vR (some 3)]) (h1 := HS t m) 2 (by rfl) ?_
  refine ev_call rfl rfl (Nat.le_of_ble_eq_true rfl) hE ⟨Nat.le_refl _, Nat.le_refl _⟩ ?_
  show Ev (PP L xs) _ 65 30 [some (vR (some 1)), some (vI ((i : Nat) : Int)), some (vI 1)] [vI 0] (HS t m1) _ _
  exact ev_retE rfl rfl (by first | rfl | (simp [*]; done) | (split <;> first | rfl | (exfalso; omega))) (by first | rfl | (simp [*]; done) | (split <;> first | rfl | (exfalso; omega)))
set_option maxRecDepth 10000 in
theorem x_wordX1 {L : Nat} {xs : Nat → Int32} {t : Bool × Nat × Nat} {m : mMM} (hk : m 2 1 = 0) : Ev (PP L xs) 9 66 0 (entL 1 [vR (some 1)]) [] (HS t m) (.inr 1) (HS (tt t) m) := by
  refine ev_go (pc' := 1) (ls' := [some (vR (some 1))]) (st' := [vR (some 1)]) (h1 := HS t m) 1 (by rfl) ?_
  exact ev_callX rfl rfl (Nat.le_of_ble_eq_true rfl) (c_reqTypedX (by omega) hk) ⟨Nat.le_succ _, Nat.le_add_right _ _⟩ rfl
set_option maxRecDepth 10000 in
theorem x_wordX2 {L : Nat} {xs : Nat → Int32} {t : Bool × Nat × Nat} {m : mMM} (hk : 0 < m 2 1 ∧ m 2 1 ≤ 6) (hn : m 75 2 = 5) : Ev (PP L xs) 9 66 0 (entL 1 [vR (some 1)]) [] (HS t m) (.inr 1) (HS (tt t) m) := by
  refine ev_go (pc' := 1) (ls' := [some (vR (some 1))]) (st' := [vR (some 1)]) (h1 := HS t m) 1 (by rfl) ?_
  refine ev_call rfl rfl (Nat.le_of_ble_eq_true rfl) (c_reqTyped hk) ⟨Nat.le_refl _, Nat.le_refl _⟩ ?_
  show Ev (PP L xs) _ 66 4 [some (vR (some 1))] [] (HS t m) _ _
  refine ev_go (pc' := 5) (ls' := [some (vR (some 1))]) (st' := [vR (some 1)]) (h1 := HS t m) 1 (by rfl) ?_
  refine ev_getR rfl rfl (rfl : rf 1 2 = some 75) ?_
  have hq := c_se_isFull (L := L) (xs := xs) (t := t) (m := m) (d := 8) (by omega)
  rw [if_pos (by omega)] at hq
  refine ev_call rfl rfl (Nat.le_of_ble_eq_true rfl) hq ⟨Nat.le_refl _, Nat.le_refl _⟩ ?_
  show Ev (PP L xs) _ 66 11 [some (vR (some 1))] [vI 1] (HS t m) _ _
  refine ev_if0 rfl rfl (fun c11 => absurd c11 (by decide)) (fun c11 => ?_)
  exact ev_thr (by omega) rfl rfl
set_option maxRecDepth 10000 in
theorem x_word0 {L : Nat} {xs : Nat → Int32} {t : Bool × Nat × Nat} {m : mMM} {n : Nat} (hk : 0 < m 2 1 ∧ m 2 1 ≤ 6) (hn : m 75 2 = (n : Int)) (hn5 : n < 5) : Ev (PP L xs) 9 66 0 (entL 1 [vR (some 1)]) [] (HS t m) (.inl (some (vI ((n + 1 : Nat) : Int)))) (HS t (up (up (up (up (up m 2 0 0) 2 1 0) 76 n (m 2 0)) 77 n (-1)) 75 2 ((n + 1 : Nat) : Int))) := by
  refine ev_go (pc' := 1) (ls' := [some (vR (some 1))]) (st' := [vR (some 1)]) (h1 := HS t m) 1 (by rfl) ?_
  refine ev_call rfl rfl (Nat.le_of_ble_eq_true rfl) (c_reqTyped hk) ⟨Nat.le_refl _, Nat.le_refl _⟩ ?_
  show Ev (PP L xs) _ 66 4 [some (vR (some 1))] [] (HS t m) _ _
  refine ev_go (pc' := 5) (ls' := [some (vR (some 1))]) (st' := [vR (some 1)]) (h1 := HS t m) 1 (by rfl) ?_
  refine ev_getR rfl rfl (rfl : rf 1 2 = some 75) ?_
  have hq := c_se_isFull (L := L) (xs := xs) (t := t) (m := m) (d := 8) (by omega)
  rw [if_neg (by omega)] at hq
  refine ev_call rfl rfl (Nat.le_of_ble_eq_true rfl) hq ⟨Nat.le_refl _, Nat.le_refl _⟩ ?_
  show Ev (PP L xs) _ 66 11 [some (vR (some 1))] [vI 0] (HS t m) _ _
  refine ev_if0 rfl rfl (fun c11 => ?_) (fun c11 => absurd c11 (by decide))
  refine ev_go (pc' := 25) (ls' := [some (vR (some 1))]) (st' := [vR (some 1)]) (h1 := HS t m) 1 (by rfl) ?_
  refine ev_getR rfl rfl (rfl : rf 1 2 = some 75) ?_
  refine ev_go (pc' := 29) (ls' := [some (vR (some 1))]) (st' := [vR (some 1), vR (some 75)]) (h1 := HS t m) 1 (by rfl) ?_
  refine ev_getR rfl rfl (rfl : rf 1 0 = some 2) ?_
  refine ev_call rfl rfl (Nat.le_of_ble_eq_true rfl) c_tw_take ⟨Nat.le_refl _, Nat.le_refl _⟩ ?_
  show Ev (PP L xs) _ 66 35 [some (vR (some 1))] [vI (m 2 0), vR (some 75)] (HS t (up (up m 2 0 0) 2 1 0)) _ _
  refine ev_call rfl rfl (Nat.le_of_ble_eq_true rfl) (c_se_append (by rw [up_ne1 _ _ (by decide), up_ne1 _ _ (by decide)]; exact hn) hn5) ⟨Nat.le_refl _, Nat.le_refl _⟩ ?_
  show Ev (PP L xs) _ 66 38 [some (vR (some 1))] [vI ((n + 1 : Nat) : Int)] (HS t (up (up (up (up (up m 2 0 0) 2 1 0) 76 n (m 2 0)) 77 n (-1)) 75 2 ((n + 1 : Nat) : Int))) _ _
  exact ev_retE rfl rfl (by first | rfl | (simp [*]; done) | (split <;> first | rfl | (exfalso; omega))) (by first | rfl | (simp [*]; done) | (split <;> first | rfl | (exfalso; omega)))
set_option maxRecDepth 10000 in
theorem x_clear {L : Nat} {xs : Nat → Int32} {t : Bool × Nat × Nat} {m : mMM}  : Ev (PP L xs) 9 67 0 (entL 1 [vR (some 1)]) [] (HS t m) (.inl (some (vI (m 75 2)))) (HS t (up m 75 2 0)) := by
  refine ev_go (pc' := 1) (ls' := [some (vR (some 1))]) (st' := [vR (some 1)]) (h1 := HS t m) 1 (by rfl) ?_
  refine ev_getR rfl rfl (rfl : rf 1 2 = some 75) ?_
  refine ev_call rfl rfl (Nat.le_of_ble_eq_true rfl) c_se_removeAll ⟨Nat.le_refl _, Nat.le_refl _⟩ ?_
  show Ev (PP L xs) _ 67 7 [some (vR (some 1))] [vI (m 75 2)] (HS t (up m 75 2 0)) _ _
  exact ev_retE rfl rfl (by first | rfl | (simp [*]; done) | (split <;> first | rfl | (exfalso; omega))) (by first | rfl | (simp [*]; done) | (split <;> first | rfl | (exfalso; omega)))
set_option maxRecDepth 10000 in
theorem x_lockX1 {L : Nat} {xs : Nat → Int32} {t : Bool × Nat × Nat} {m : mMM} {n : Nat} {x y : Int} (hn : m 75 2 = (n : Int)) (hn5 : n ≤ 5) (hI : inI x = true) (h : x < 0 ∨ (n : Int) ≤ x) : Ev (PP L xs) 9 68 0 (entL 3 [vR (some 1), vI x, vI y]) [] (HS t m) (.inr 2) (HS (tt t) m) := by
  refine ev_go (pc' := 2) (ls' := [some (vR (some 1)), some (vI x), some (vI y)]) (st' := [vI x, vR (some 1)]) (h1 := HS t m) 2 (by rfl) ?_
  exact ev_callX rfl rfl (Nat.le_of_ble_eq_true rfl) (c_reqPlaceX (by omega) hn hn5 hI h) ⟨Nat.le_succ _, Nat.le_add_right _ _⟩ rfl
set_option maxRecDepth 10000 in
theorem x_lockX2 {L : Nat} {xs : Nat → Int32} {t : Bool × Nat × Nat} {m : mMM} {n p : Nat} {y : Int} (hn : m 75 2 = (n : Int)) (hn5 : n ≤ 5) (hp : p < n) (hI : inI y = true) (h : y < -1 ∨ 5 ≤ y) : Ev (PP L xs) 9 68 0 (entL 3 [vR (some 1), vI ((p : Nat) : Int), vI y]) [] (HS t m) (.inr 2) (HS (tt t) m) := by
  refine ev_go (pc' := 2) (ls' := [some (vR (some 1)), some (vI ((p : Nat) : Int)), some (vI y)]) (st' := [vI ((p : Nat) : Int), vR (some 1)]) (h1 := HS t m) 2 (by rfl) ?_
  refine ev_call rfl rfl (Nat.le_of_ble_eq_true rfl) (c_reqPlace hn hn5 hp) ⟨Nat.le_refl _, Nat.le_refl _⟩ ?_
  show Ev (PP L xs) _ 68 5 [some (vR (some 1)), some (vI ((p : Nat) : Int)), some (vI y)] [] (HS t m) _ _
  refine ev_go (pc' := 6) (ls' := [some (vR (some 1)), some (vI ((p : Nat) : Int)), some (vI y)]) (st' := [vI y]) (h1 := HS t m) 1 (by rfl) ?_
  exact ev_callX rfl rfl (Nat.le_of_ble_eq_true rfl) (c_reqTagOrX (by omega) hI h) ⟨Nat.le_succ _, Nat.le_add_right _ _⟩ rfl
set_option maxRecDepth 10000 in
theorem x_lockN {L : Nat} {xs : Nat → Int32} {t : Bool × Nat × Nat} {m : mMM} {n p : Nat} (hn : m 75 2 = (n : Int)) (hn5 : n ≤ 5) (hp : p < n) : Ev (PP L xs) 9 68 0 (entL 3 [vR (some 1), vI ((p : Nat) : Int), vI (-1)]) [] (HS t m) (.inl (some (vI (m 77 p)))) (HS t (up m 77 p (-1))) := by
  refine ev_go (pc' := 2) (ls' := [some (vR (some 1)), some (vI ((p : Nat) : Int)), some (vI (-1))]) (st' := [vI ((p : Nat) : Int), vR (some 1)]) (h1 := HS t m) 2 (by rfl) ?_
  refine ev_call rfl rfl (Nat.le_of_ble_eq_true rfl) (c_reqPlace hn hn5 hp) ⟨Nat.le_refl _, Nat.le_refl _⟩ ?_
  show Ev (PP L xs) _ 68 5 [some (vR (some 1)), some (vI ((p : Nat) : Int)), some (vI (-1))] [] (HS t m) _ _
  refine ev_go (pc' := 6) (ls' := [some (vR (some 1)), some (vI ((p : Nat) : Int)), some (vI (-1))]) (st' := [vI (-1)]) (h1 := HS t m) 1 (by rfl) ?_
  refine ev_call rfl rfl (Nat.le_of_ble_eq_true rfl) c_reqTagNone ⟨Nat.le_refl _, Nat.le_refl _⟩ ?_
  show Ev (PP L xs) _ 68 9 [some (vR (some 1)), some (vI ((p : Nat) : Int)), some (vI (-1))] [] (HS t m) _ _
  refine ev_go (pc' := 10) (ls' := [some (vR (some 1)), some (vI ((p : Nat) : Int)), some (vI (-1))]) (st' := [vR (some 1)]) (h1 := HS t m) 1 (by rfl) ?_
  refine ev_getR rfl rfl (rfl : rf 1 2 = some 75) ?_
  refine ev_go (pc' := 15) (ls' := [some (vR (some 1)), some (vI ((p : Nat) : Int)), some (vI (-1))]) (st' := [vI (-1), vI ((p : Nat) : Int), vR (some 75)]) (h1 := HS t m) 2 (by rfl) ?_
  refine ev_call rfl rfl (Nat.le_of_ble_eq_true rfl) (c_se_lockTo (by omega)) ⟨Nat.le_refl _, Nat.le_refl _⟩ ?_
  show Ev (PP L xs) _ 68 18 [some (vR (some 1)), some (vI ((p : Nat) : Int)), some (vI (-1))] [vI (m 77 p)] (HS t (up m 77 p (-1))) _ _
  exact ev_retE rfl rfl (by first | rfl | (simp [*]; done) | (split <;> first | rfl | (exfalso; omega))) (by first | rfl | (simp [*]; done) | (split <;> first | rfl | (exfalso; omega)))
set_option maxRecDepth 10000 in
theorem x_lockG {L : Nat} {xs : Nat → Int32} {t : Bool × Nat × Nat} {m : mMM} {n p g : Nat} (hn : m 75 2 = (n : Int)) (hn5 : n ≤ 5) (hp : p < n) (hg : g < 5) : Ev (PP L xs) 9 68 0 (entL 3 [vR (some 1), vI ((p : Nat) : Int), vI ((g : Nat) : Int)]) [] (HS t m) (.inl (some (vI (m 77 p)))) (HS t (up m 77 p ((g : Nat) : Int))) := by
  refine ev_go (pc' := 2) (ls' := [some (vR (some 1)), some (vI ((p : Nat) : Int)), some (vI ((g : Nat) : Int))]) (st' := [vI ((p : Nat) : Int), vR (some 1)]) (h1 := HS t m) 2 (by rfl) ?_
  refine ev_call rfl rfl (Nat.le_of_ble_eq_true rfl) (c_reqPlace hn hn5 hp) ⟨Nat.le_refl _, Nat.le_refl _⟩ ?_
  show Ev (PP L xs) _ 68 5 [some (vR (some 1)), some (vI ((p : Nat) : Int)), some (vI ((g : Nat) : Int))] [] (HS t m) _ _
  refine ev_go (pc' := 6) (ls' := [some (vR (some 1)), some (vI ((p : Nat) : Int)), some (vI ((g : Nat) : Int))]) (st' := [vI ((g : Nat) : Int)]) (h1 := HS t m) 1 (by rfl) ?_
  refine ev_call rfl rfl (Nat.le_of_ble_eq_true rfl) (c_reqTagOr hg) ⟨Nat.le_refl _, Nat.le_refl _⟩ ?_
  show Ev (PP L xs) _ 68 9 [some (vR (some 1)), some (vI ((p : Nat) : Int)), some (vI ((g : Nat) : Int))] [] (HS t m) _ _
  refine ev_go (pc' := 10) (ls' := [some (vR (some 1)), some (vI ((p : Nat) : Int)), some (vI ((g : Nat) : Int))]) (st' := [vR (some 1)]) (h1 := HS t m) 1 (by rfl) ?_
  refine ev_getR rfl rfl (rfl : rf 1 2 = some 75) ?_
  refine ev_go (pc' := 15) (ls' := [some (vR (some 1)), some (vI ((p : Nat) : Int)), some (vI ((g : Nat) : Int))]) (st' := [vI ((g : Nat) : Int), vI ((p : Nat) : Int), vR (some 75)]) (h1 := HS t m) 2 (by rfl) ?_
  refine ev_call rfl rfl (Nat.le_of_ble_eq_true rfl) (c_se_lockTo (by omega)) ⟨Nat.le_refl _, Nat.le_refl _⟩ ?_
  show Ev (PP L xs) _ 68 18 [some (vR (some 1)), some (vI ((p : Nat) : Int)), some (vI ((g : Nat) : Int))] [vI (m 77 p)] (HS t (up m 77 p ((g : Nat) : Int))) _ _
  exact ev_retE rfl rfl (by first | rfl | (simp [*]; done) | (split <;> first | rfl | (exfalso; omega))) (by first | rfl | (simp [*]; done) | (split <;> first | rfl | (exfalso; omega)))
set_option maxRecDepth 10000 in
theorem x_weightX2 {L : Nat} {xs : Nat → Int32} {t : Bool × Nat × Nat} {m : mMM} {x : Int} (h : x < 0 ∨ 5 ≤ x) (hI : inI x = true) : Ev (PP L xs) 9 69 0 (entL 2 [vR (some 1), vI x]) [] (HS t m) (.inr 2) (HS (tt t) m) := by
  refine ev_go (pc' := 1) (ls' := [some (vR (some 1)), some (vI x)]) (st' := [vI x]) (h1 := HS t m) 1 (by rfl) ?_
  exact ev_callX rfl rfl (Nat.le_of_ble_eq_true rfl) (c_reqTagX (by omega) hI h) ⟨Nat.le_succ _, Nat.le_add_right _ _⟩ rfl
set_option maxRecDepth 10000 in
theorem x_weightX1 {L : Nat} {xs : Nat → Int32} {t : Bool × Nat × Nat} {m : mMM} {g : Nat} (hg : g < 5) (hk : m 2 1 = 0) : Ev (PP L xs) 9 69 0 (entL 2 [vR (some 1), vI ((g : Nat) : Int)]) [] (HS t m) (.inr 1) (HS (tt t) m) := by
  refine ev_go (pc' := 1) (ls' := [some (vR (some 1)), some (vI ((g : Nat) : Int))]) (st' := [vI ((g : Nat) : Int)]) (h1 := HS t m) 1 (by rfl) ?_
  refine ev_call rfl rfl (Nat.le_of_ble_eq_true rfl) (c_reqTag hg) ⟨Nat.le_refl _, Nat.le_refl _⟩ ?_
  show Ev (PP L xs) _ 69 4 [some (vR (some 1)), some (vI ((g : Nat) : Int))] [] (HS t m) _ _
  refine ev_go (pc' := 5) (ls' := [some (vR (some 1)), some (vI ((g : Nat) : Int))]) (st' := [vR (some 1)]) (h1 := HS t m) 1 (by rfl) ?_
  exact ev_callX rfl rfl (Nat.le_of_ble_eq_true rfl) (c_reqTypedX (by omega) hk) ⟨Nat.le_succ _, Nat.le_add_right _ _⟩ rfl
set_option maxRecDepth 10000 in
theorem x_weight0 {L : Nat} {xs : Nat → Int32} {t : Bool × Nat × Nat} {g : Nat} {m : mMM} {C : List Tx} (hg : g < 5) (hk : 0 < m 2 1 ∧ m 2 1 ≤ 6) (hw : 0 ≤ m 2 0) (hw2 : m 2 0 < 2147483648) (hW : ∀ i, i < C.length → WT (gc C i).1) (hB : ∀ w k, k < 5 → 0 ≤ (foW C w).2 k ∧ (foW C w).2 k ≤ 1000) (hc : CR m C) : ∃ m', Ev (PP L xs) 9 69 0 (entL 2 [vR (some 1), vI (g : Int)]) [] (HS t m) (.inl (some (vI (wF (facF (foW C (m 2 0)).1) ((foW C (m 2 0)).2 g))))) (HS t m') ∧ FRo m m' 188 := by
  obtain ⟨m1, hE, h1, h2⟩ := c_weigh (L := L) (xs := xs) (t := t) (d := 6) (b := 188) (w := m 2 0) rfl (by decide) hW hw hw2 hc (hB (m 2 0))
  refine ⟨m1, ?_, h2⟩
  have hv : m1 188 g = wF (facF (foW C (m 2 0)).1) ((foW C (m 2 0)).2 g) := h1 g hg
  refine ev_go (pc' := 1) (ls' := [some (vR (some 1)), some (vI ((g : Nat) : Int))]) (st' := [vI ((g : Nat) : Int)]) (h1 := HS t m) 1 (by rfl) ?_
  refine ev_call rfl rfl (Nat.le_of_ble_eq_true rfl) (c_reqTag hg) ⟨Nat.le_refl _, Nat.le_refl _⟩ ?_
  show Ev (PP L xs) _ 69 4 [some (vR (some 1)), some (vI ((g : Nat) : Int))] [] (HS t m) _ _
  refine ev_go (pc' := 5) (ls' := [some (vR (some 1)), some (vI ((g : Nat) : Int))]) (st' := [vR (some 1)]) (h1 := HS t m) 1 (by rfl) ?_
  refine ev_call rfl rfl (Nat.le_of_ble_eq_true rfl) (c_reqTyped hk) ⟨Nat.le_refl _, Nat.le_refl _⟩ ?_
  show Ev (PP L xs) _ 69 8 [some (vR (some 1)), some (vI ((g : Nat) : Int))] [] (HS t m) _ _
  refine ev_go (pc' := 9) (ls' := [some (vR (some 1)), some (vI ((g : Nat) : Int))]) (st' := [vR (some 1)]) (h1 := HS t m) 1 (by rfl) ?_
  refine ev_getR rfl rfl (rfl : rf 1 1 = some 3) ?_
  refine ev_go (pc' := 13) (ls' := [some (vR (some 1)), some (vI ((g : Nat) : Int))]) (st' := [vR (some 1), vR (some 3)]) (h1 := HS t m) 1 (by rfl) ?_
  refine ev_getR rfl rfl (rfl : rf 1 0 = some 2) ?_
  refine ev_call rfl rfl (Nat.le_of_ble_eq_true rfl) c_tw_code ⟨Nat.le_refl _, Nat.le_refl _⟩ ?_
  show Ev (PP L xs) _ 69 19 [some (vR (some 1)), some (vI ((g : Nat) : Int))] [vI (m 2 0), vR (some 3)] (HS t m) _ _
  refine ev_go (pc' := 20) (ls' := [some (vR (some 1)), some (vI ((g : Nat) : Int))]) (st' := [vR (some 1), vI (m 2 0), vR (some 3)]) (h1 := HS t m) 1 (by rfl) ?_
  refine ev_getR rfl rfl (rfl : rf 1 7 = some 188) ?_
  refine ev_call rfl rfl (Nat.le_of_ble_eq_true rfl) hE ⟨Nat.le_refl _, Nat.le_refl _⟩ ?_
  show Ev (PP L xs) _ 69 26 [some (vR (some 1)), some (vI ((g : Nat) : Int))] [] (HS t m1) _ _
  refine ev_go (pc' := 27) (ls' := [some (vR (some 1)), some (vI ((g : Nat) : Int))]) (st' := [vR (some 1)]) (h1 := HS t m1) 1 (by rfl) ?_
  refine ev_getR rfl rfl (rfl : rf 1 7 = some 188) ?_
  refine ev_go (pc' := 31) (ls' := [some (vR (some 1)), some (vI ((g : Nat) : Int))]) (st' := [vI ((g : Nat) : Int), vR (some 188)]) (h1 := HS t m1) 1 (by rfl) ?_
  refine ev_ialdv (k := g) (v := (wF (facF (foW C (m 2 0)).1) ((foW C (m 2 0)).2 g))) rfl rfl rfl (by omega) (hv) ?_
  exact ev_retE rfl rfl (by first | rfl | (simp [*]; done) | (split <;> first | rfl | (exfalso; omega))) (by first | rfl | (simp [*]; done) | (split <;> first | rfl | (exfalso; omega)))
set_option maxRecDepth 10000 in
theorem x_stepX1 {L : Nat} {xs : Nat → Int32} {t : Bool × Nat × Nat} {m : mMM} {x y : Int} (hI : inI x = true) (h : x < -1 ∨ 5 ≤ x) : Ev (PP L xs) 9 70 0 (entL 3 [vR (some 1), vI x, vI y]) [] (HS t m) (.inr 2) (HS (tt t) m) := by
  refine ev_go (pc' := 1) (ls' := [some (vR (some 1)), some (vI x), some (vI y)]) (st' := [vI x]) (h1 := HS t m) 1 (by rfl) ?_
  exact ev_callX rfl rfl (Nat.le_of_ble_eq_true rfl) (c_reqTagOrX (by omega) hI h) ⟨Nat.le_succ _, Nat.le_add_right _ _⟩ rfl
set_option maxRecDepth 10000 in
theorem x_stepX2 {L : Nat} {xs : Nat → Int32} {t : Bool × Nat × Nat} {m : mMM} {y : Int} (hI : inI y = true) (h : y < 0 ∨ 5 ≤ y) : Ev (PP L xs) 9 70 0 (entL 3 [vR (some 1), vI (-1), vI y]) [] (HS t m) (.inr 2) (HS (tt t) m) := by
  refine ev_go (pc' := 1) (ls' := [some (vR (some 1)), some (vI (-1)), some (vI y)]) (st' := [vI (-1)]) (h1 := HS t m) 1 (by rfl) ?_
  refine ev_call rfl rfl (Nat.le_of_ble_eq_true rfl) c_reqTagNone ⟨Nat.le_refl _, Nat.le_refl _⟩ ?_
  show Ev (PP L xs) _ 70 4 [some (vR (some 1)), some (vI (-1)), some (vI y)] [] (HS t m) _ _
  refine ev_go (pc' := 5) (ls' := [some (vR (some 1)), some (vI (-1)), some (vI y)]) (st' := [vI y]) (h1 := HS t m) 1 (by rfl) ?_
  exact ev_callX rfl rfl (Nat.le_of_ble_eq_true rfl) (c_reqTagX (by omega) hI h) ⟨Nat.le_succ _, Nat.le_add_right _ _⟩ rfl
set_option maxRecDepth 10000 in
theorem x_stepX3 {L : Nat} {xs : Nat → Int32} {t : Bool × Nat × Nat} {m : mMM} {g : Nat} {y : Int} (hg : g < 5) (hI : inI y = true) (h : y < 0 ∨ 5 ≤ y) : Ev (PP L xs) 9 70 0 (entL 3 [vR (some 1), vI ((g : Nat) : Int), vI y]) [] (HS t m) (.inr 2) (HS (tt t) m) := by
  refine ev_go (pc' := 1) (ls' := [some (vR (some 1)), some (vI ((g : Nat) : Int)), some (vI y)]) (st' := [vI ((g : Nat) : Int)]) (h1 := HS t m) 1 (by rfl) ?_
  refine ev_call rfl rfl (Nat.le_of_ble_eq_true rfl) (c_reqTagOr hg) ⟨Nat.le_refl _, Nat.le_refl _⟩ ?_
  show Ev (PP L xs) _ 70 4 [some (vR (some 1)), some (vI ((g : Nat) : Int)), some (vI y)] [] (HS t m) _ _
  refine ev_go (pc' := 5) (ls' := [some (vR (some 1)), some (vI ((g : Nat) : Int)), some (vI y)]) (st' := [vI y]) (h1 := HS t m) 1 (by rfl) ?_
  exact ev_callX rfl rfl (Nat.le_of_ble_eq_true rfl) (c_reqTagX (by omega) hI h) ⟨Nat.le_succ _, Nat.le_add_right _ _⟩ rfl
set_option maxRecDepth 10000 in
theorem x_stepN {L : Nat} {xs : Nat → Int32} {t : Bool × Nat × Nat} {m : mMM} {h : Nat} (hh : h < 5) (h0 : 0 ≤ m 5 h) (h1 : m 5 h ≤ 1000) : Ev (PP L xs) 9 70 0 (entL 3 [vR (some 1), vI (-1), vI ((h : Nat) : Int)]) [] (HS t m) (.inl (some (vI (mn7 (m 5 h))))) (HS t m) := by
  refine ev_go (pc' := 1) (ls' := [some (vR (some 1)), some (vI (-1)), some (vI ((h : Nat) : Int))]) (st' := [vI (-1)]) (h1 := HS t m) 1 (by rfl) ?_
  refine ev_call rfl rfl (Nat.le_of_ble_eq_true rfl) c_reqTagNone ⟨Nat.le_refl _, Nat.le_refl _⟩ ?_
  show Ev (PP L xs) _ 70 4 [some (vR (some 1)), some (vI (-1)), some (vI ((h : Nat) : Int))] [] (HS t m) _ _
  refine ev_go (pc' := 5) (ls' := [some (vR (some 1)), some (vI (-1)), some (vI ((h : Nat) : Int))]) (st' := [vI ((h : Nat) : Int)]) (h1 := HS t m) 1 (by rfl) ?_
  refine ev_call rfl rfl (Nat.le_of_ble_eq_true rfl) (c_reqTag hh) ⟨Nat.le_refl _, Nat.le_refl _⟩ ?_
  show Ev (PP L xs) _ 70 8 [some (vR (some 1)), some (vI (-1)), some (vI ((h : Nat) : Int))] [] (HS t m) _ _
  refine ev_go (pc' := 9) (ls' := [some (vR (some 1)), some (vI (-1)), some (vI ((h : Nat) : Int))]) (st' := [vR (some 1)]) (h1 := HS t m) 1 (by rfl) ?_
  refine ev_getR rfl rfl (rfl : rf 1 1 = some 3) ?_
  refine ev_go (pc' := 14) (ls' := [some (vR (some 1)), some (vI (-1)), some (vI ((h : Nat) : Int))]) (st' := [vI ((h : Nat) : Int), vI (-1), vR (some 3)]) (h1 := HS t m) 2 (by rfl) ?_
  refine ev_call rfl rfl (Nat.le_of_ble_eq_true rfl) (c_stepF hh h0 h1) ⟨Nat.le_refl _, Nat.le_refl _⟩ ?_
  show Ev (PP L xs) _ 70 17 [some (vR (some 1)), some (vI (-1)), some (vI ((h : Nat) : Int))] [vI (mn7 (m 5 h))] (HS t m) _ _
  exact ev_retE rfl rfl (by first | rfl | (simp [*]; done) | (split <;> first | rfl | (exfalso; omega))) (by first | rfl | (simp [*]; done) | (split <;> first | rfl | (exfalso; omega)))
set_option maxRecDepth 10000 in
theorem x_stepG {L : Nat} {xs : Nat → Int32} {t : Bool × Nat × Nat} {m : mMM} {g h : Nat} (hg : g < 5) (hh : h < 5) (h0 : 0 ≤ m (7 + g) h) (h1 : m (7 + g) h ≤ 1000) : Ev (PP L xs) 9 70 0 (entL 3 [vR (some 1), vI ((g : Nat) : Int), vI ((h : Nat) : Int)]) [] (HS t m) (.inl (some (vI (mn7 (m (7 + g) h))))) (HS t m) := by
  refine ev_go (pc' := 1) (ls' := [some (vR (some 1)), some (vI ((g : Nat) : Int)), some (vI ((h : Nat) : Int))]) (st' := [vI ((g : Nat) : Int)]) (h1 := HS t m) 1 (by rfl) ?_
  refine ev_call rfl rfl (Nat.le_of_ble_eq_true rfl) (c_reqTagOr hg) ⟨Nat.le_refl _, Nat.le_refl _⟩ ?_
  show Ev (PP L xs) _ 70 4 [some (vR (some 1)), some (vI ((g : Nat) : Int)), some (vI ((h : Nat) : Int))] [] (HS t m) _ _
  refine ev_go (pc' := 5) (ls' := [some (vR (some 1)), some (vI ((g : Nat) : Int)), some (vI ((h : Nat) : Int))]) (st' := [vI ((h : Nat) : Int)]) (h1 := HS t m) 1 (by rfl) ?_
  refine ev_call rfl rfl (Nat.le_of_ble_eq_true rfl) (c_reqTag hh) ⟨Nat.le_refl _, Nat.le_refl _⟩ ?_
  show Ev (PP L xs) _ 70 8 [some (vR (some 1)), some (vI ((g : Nat) : Int)), some (vI ((h : Nat) : Int))] [] (HS t m) _ _
  refine ev_go (pc' := 9) (ls' := [some (vR (some 1)), some (vI ((g : Nat) : Int)), some (vI ((h : Nat) : Int))]) (st' := [vR (some 1)]) (h1 := HS t m) 1 (by rfl) ?_
  refine ev_getR rfl rfl (rfl : rf 1 1 = some 3) ?_
  refine ev_go (pc' := 14) (ls' := [some (vR (some 1)), some (vI ((g : Nat) : Int)), some (vI ((h : Nat) : Int))]) (st' := [vI ((h : Nat) : Int), vI ((g : Nat) : Int), vR (some 3)]) (h1 := HS t m) 2 (by rfl) ?_
  refine ev_call rfl rfl (Nat.le_of_ble_eq_true rfl) (c_stepW hg hh h0 h1) ⟨Nat.le_refl _, Nat.le_refl _⟩ ?_
  show Ev (PP L xs) _ 70 17 [some (vR (some 1)), some (vI ((g : Nat) : Int)), some (vI ((h : Nat) : Int))] [vI (mn7 (m (7 + g) h))] (HS t m) _ _
  exact ev_retE rfl rfl (by first | rfl | (simp [*]; done) | (split <;> first | rfl | (exfalso; omega))) (by first | rfl | (simp [*]; done) | (split <;> first | rfl | (exfalso; omega)))
set_option maxRecDepth 10000 in
theorem x_texts {L : Nat} {xs : Nat → Int32} {t : Bool × Nat × Nat} {m : mMM}  : Ev (PP L xs) 9 77 0 (entL 1 [vR (some 1)]) [] (HS t m) (.inl (some (vI (m 3 4)))) (HS t m) := by
  refine ev_go (pc' := 1) (ls' := [some (vR (some 1))]) (st' := [vR (some 1)]) (h1 := HS t m) 1 (by rfl) ?_
  refine ev_getR rfl rfl (rfl : rf 1 1 = some 3) ?_
  refine ev_call rfl rfl (Nat.le_of_ble_eq_true rfl) c_co_counting ⟨Nat.le_refl _, Nat.le_refl _⟩ ?_
  show Ev (PP L xs) _ 77 7 [some (vR (some 1))] [vI (m 3 4)] (HS t m) _ _
  exact ev_retE rfl rfl (by first | rfl | (simp [*]; done) | (split <;> first | rfl | (exfalso; omega))) (by first | rfl | (simp [*]; done) | (split <;> first | rfl | (exfalso; omega)))
