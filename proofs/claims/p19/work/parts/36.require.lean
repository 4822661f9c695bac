/-! ===== what is asked ahead: tags, ranks, places, words ===== -/
set_option maxRecDepth 10000 in
theorem c_reqTag {L : Nat} {xs : Nat → Int32} {d : Nat} {t : Bool × Nat × Nat} {m : mMM} {g : Nat} (hg : g < 5) : Ev (PP L xs) (d + 1) 85 0 (entL 1 [vI ((g : Nat) : Int)]) [] (HS t m) (.inl none) (HS t m) := by
  refine ev_go (pc' := 1) (ls' := [some (vI ((g : Nat) : Int))]) (st' := [vI ((g : Nat) : Int)]) (h1 := HS t m) 1 (by rfl) ?_
  refine ev_call rfl rfl (Nat.le_of_ble_eq_true rfl) (c_isTag1 hg) ⟨Nat.le_refl _, Nat.le_refl _⟩ ?_
  show Ev (PP L xs) _ 85 4 [some (vI ((g : Nat) : Int))] [vI 1] (HS t m) _ _
  refine ev_if1 rfl rfl (fun c4 => ?_) (fun c4 => absurd c4 (by decide))
  exact ev_retE rfl rfl (by first | rfl | (simp [*]; done) | (split <;> first | rfl | (exfalso; omega))) (by first | rfl | (simp [*]; done) | (split <;> first | rfl | (exfalso; omega)))
set_option maxRecDepth 10000 in
theorem c_reqTagX {L : Nat} {xs : Nat → Int32} {d : Nat} {t : Bool × Nat × Nat} {m : mMM} {x : Int} (hd : 6 ≤ d) (hx : inI x = true) (h : x < 0 ∨ 5 ≤ x) : Ev (PP L xs) (d + 1) 85 0 (entL 1 [vI x]) [] (HS t m) (.inr 2) (HS (tt t) m) := by
  refine ev_go (pc' := 1) (ls' := [some (vI x)]) (st' := [vI x]) (h1 := HS t m) 1 (by rfl) ?_
  refine ev_call rfl rfl (Nat.le_of_ble_eq_true rfl) (h.elim (fun e => c_isTagN hx e) (fun e => c_isTagB hx e)) ⟨Nat.le_refl _, Nat.le_refl _⟩ ?_
  show Ev (PP L xs) _ 85 4 [some (vI x)] [vI 0] (HS t m) _ _
  refine ev_if1 rfl rfl (fun c4 => absurd c4 (by decide)) (fun c4 => ?_)
  exact ev_thr (by omega) rfl rfl
set_option maxRecDepth 10000 in
theorem c_reqTagNone {L : Nat} {xs : Nat → Int32} {d : Nat} {t : Bool × Nat × Nat} {m : mMM}  : Ev (PP L xs) (d + 2) 86 0 (entL 1 [vI (-1)]) [] (HS t m) (.inl none) (HS t m) := by
  refine ev_go (pc' := 2) (ls' := [some (vI (-1))]) (st' := [vI (-1), vI (-1)]) (h1 := HS t m) 2 (by rfl) ?_
  refine ev_ic0 rfl rfl rfl (fun c2 => ?_) (fun c2 => absurd c2 (by decide))
  exact ev_retE rfl rfl (by first | rfl | (simp [*]; done) | (split <;> first | rfl | (exfalso; omega))) (by first | rfl | (simp [*]; done) | (split <;> first | rfl | (exfalso; omega)))
set_option maxRecDepth 10000 in
theorem c_reqTagOr {L : Nat} {xs : Nat → Int32} {d : Nat} {t : Bool × Nat × Nat} {m : mMM} {g : Nat} (hg : g < 5) : Ev (PP L xs) (d + 2) 86 0 (entL 1 [vI ((g : Nat) : Int)]) [] (HS t m) (.inl none) (HS t m) := by
  refine ev_go (pc' := 2) (ls' := [some (vI ((g : Nat) : Int))]) (st' := [vI (-1), vI ((g : Nat) : Int)]) (h1 := HS t m) 2 (by rfl) ?_
  refine ev_ic0 rfl (inI_of (by omega) (by omega)) rfl (fun c2 => absurd c2 (by omega)) (fun c2 => ?_)
  refine ev_go (pc' := 6) (ls' := [some (vI ((g : Nat) : Int))]) (st' := [vI ((g : Nat) : Int)]) (h1 := HS t m) 1 (by rfl) ?_
  refine ev_call rfl rfl (Nat.le_of_ble_eq_true rfl) (c_reqTag hg) ⟨Nat.le_refl _, Nat.le_refl _⟩ ?_
  show Ev (PP L xs) _ 86 9 [some (vI ((g : Nat) : Int))] [] (HS t m) _ _
  exact ev_retE rfl rfl (by first | rfl | (simp [*]; done) | (split <;> first | rfl | (exfalso; omega))) (by first | rfl | (simp [*]; done) | (split <;> first | rfl | (exfalso; omega)))
set_option maxRecDepth 10000 in
theorem c_reqTagOrX {L : Nat} {xs : Nat → Int32} {d : Nat} {t : Bool × Nat × Nat} {m : mMM} {x : Int} (hd : 6 ≤ d) (hx : inI x = true) (h : x < -1 ∨ 5 ≤ x) : Ev (PP L xs) (d + 2) 86 0 (entL 1 [vI x]) [] (HS t m) (.inr 2) (HS (tt t) m) := by
  refine ev_go (pc' := 2) (ls' := [some (vI x)]) (st' := [vI (-1), vI x]) (h1 := HS t m) 2 (by rfl) ?_
  refine ev_ic0 rfl hx rfl (fun c2 => absurd c2 (by omega)) (fun c2 => ?_)
  refine ev_go (pc' := 6) (ls' := [some (vI x)]) (st' := [vI x]) (h1 := HS t m) 1 (by rfl) ?_
  exact ev_callX rfl rfl (Nat.le_of_ble_eq_true rfl) (c_reqTagX hd hx (by omega)) ⟨Nat.le_succ _, Nat.le_add_right _ _⟩ rfl
set_option maxRecDepth 10000 in
theorem c_reqRank {L : Nat} {xs : Nat → Int32} {d : Nat} {t : Bool × Nat × Nat} {m : mMM} {g : Nat} (hg : g < 10) : Ev (PP L xs) d 87 0 (entL 1 [vI ((g : Nat) : Int)]) [] (HS t m) (.inl none) (HS t m) := by
  refine ev_go (pc' := 1) (ls' := [some (vI ((g : Nat) : Int))]) (st' := [vI ((g : Nat) : Int)]) (h1 := HS t m) 1 (by rfl) ?_
  refine ev_if2 rfl (inI_of (by omega) (by omega)) (fun c1 => absurd c1 (by omega)) (fun c1 => ?_)
  refine ev_go (pc' := 7) (ls' := [some (vI ((g : Nat) : Int))]) (st' := [vI 10, vI ((g : Nat) : Int)]) (h1 := HS t m) 2 (by rfl) ?_
  refine ev_ic2 rfl (inI_of (by omega) (by omega)) rfl (fun c7 => ?_) (fun c7 => absurd c7 (by omega))
  exact ev_retE rfl rfl (by first | rfl | (simp [*]; done) | (split <;> first | rfl | (exfalso; omega))) (by first | rfl | (simp [*]; done) | (split <;> first | rfl | (exfalso; omega)))
set_option maxRecDepth 10000 in
theorem c_reqRankX {L : Nat} {xs : Nat → Int32} {d : Nat} {t : Bool × Nat × Nat} {m : mMM} {x : Int} (hd : 7 ≤ d) (hx : inI x = true) (h : x < 0 ∨ 10 ≤ x) : Ev (PP L xs) d 87 0 (entL 1 [vI x]) [] (HS t m) (.inr 2) (HS (tt t) m) := by
  refine ev_go (pc' := 1) (ls' := [some (vI x)]) (st' := [vI x]) (h1 := HS t m) 1 (by rfl) ?_
  refine ev_if2 rfl hx (fun c1 => ?_) (fun c1 => ?_)
  · exact ev_thr (by omega) rfl rfl
  · refine ev_go (pc' := 7) (ls' := [some (vI x)]) (st' := [vI 10, vI x]) (h1 := HS t m) 2 (by rfl) ?_
    refine ev_ic2 rfl hx rfl (fun c7 => absurd c7 (by omega)) (fun c7 => ?_)
    exact ev_thr (by omega) rfl rfl
set_option maxRecDepth 10000 in
theorem c_reqPlace {L : Nat} {xs : Nat → Int32} {d : Nat} {t : Bool × Nat × Nat} {m : mMM} {p n : Nat} (hn : m 75 2 = (n : Int)) (hn5 : n ≤ 5) (hp : p < n) : Ev (PP L xs) (d + 1) 88 0 (entL 2 [vR (some 1), vI ((p : Nat) : Int)]) [] (HS t m) (.inl none) (HS t m) := by
  refine ev_go (pc' := 1) (ls' := [some (vR (some 1)), some (vI ((p : Nat) : Int))]) (st' := [vI ((p : Nat) : Int)]) (h1 := HS t m) 1 (by rfl) ?_
  refine ev_if2 rfl (inI_of (by omega) (by omega)) (fun c1 => absurd c1 (by omega)) (fun c1 => ?_)
  refine ev_go (pc' := 6) (ls' := [some (vR (some 1)), some (vI ((p : Nat) : Int))]) (st' := [vR (some 1), vI ((p : Nat) : Int)]) (h1 := HS t m) 2 (by rfl) ?_
  refine ev_getR rfl rfl (rfl : rf 1 2 = some 75) ?_
  have hsz := c_se_size (L := L) (xs := xs) (d := d) (t := t) (m := m)
  rw [hn] at hsz
  refine ev_call rfl rfl (Nat.le_of_ble_eq_true rfl) hsz ⟨Nat.le_refl _, Nat.le_refl _⟩ ?_
  show Ev (PP L xs) _ 88 12 [some (vR (some 1)), some (vI ((p : Nat) : Int))] [vI ((n : Nat) : Int), vI ((p : Nat) : Int)] (HS t m) _ _
  refine ev_ic2 rfl (inI_of (by omega) (by omega)) (inI_of (by omega) (by omega)) (fun c12 => ?_) (fun c12 => absurd c12 (by omega))
  exact ev_retE rfl rfl (by first | rfl | (simp [*]; done) | (split <;> first | rfl | (exfalso; omega))) (by first | rfl | (simp [*]; done) | (split <;> first | rfl | (exfalso; omega)))
set_option maxRecDepth 10000 in
theorem c_reqPlaceX {L : Nat} {xs : Nat → Int32} {d : Nat} {t : Bool × Nat × Nat} {m : mMM} {x : Int} {n : Nat} (hd : 6 ≤ d) (hn : m 75 2 = (n : Int)) (hn5 : n ≤ 5) (hx : inI x = true) (h : x < 0 ∨ (n : Int) ≤ x) : Ev (PP L xs) (d + 1) 88 0 (entL 2 [vR (some 1), vI x]) [] (HS t m) (.inr 2) (HS (tt t) m) := by
  refine ev_go (pc' := 1) (ls' := [some (vR (some 1)), some (vI x)]) (st' := [vI x]) (h1 := HS t m) 1 (by rfl) ?_
  refine ev_if2 rfl hx (fun c1 => ?_) (fun c1 => ?_)
  · exact ev_thr (by omega) rfl rfl
  · refine ev_go (pc' := 6) (ls' := [some (vR (some 1)), some (vI x)]) (st' := [vR (some 1), vI x]) (h1 := HS t m) 2 (by rfl) ?_
    refine ev_getR rfl rfl (rfl : rf 1 2 = some 75) ?_
    have hsz := c_se_size (L := L) (xs := xs) (d := d) (t := t) (m := m)
    rw [hn] at hsz
    refine ev_call rfl rfl (Nat.le_of_ble_eq_true rfl) hsz ⟨Nat.le_refl _, Nat.le_refl _⟩ ?_
    show Ev (PP L xs) _ 88 12 [some (vR (some 1)), some (vI x)] [vI ((n : Nat) : Int), vI x] (HS t m) _ _
    refine ev_ic2 rfl hx (inI_of (by omega) (by omega)) (fun c12 => absurd c12 (by omega)) (fun c12 => ?_)
    exact ev_thr (by omega) rfl rfl
set_option maxRecDepth 10000 in
theorem c_reqTyped {L : Nat} {xs : Nat → Int32} {d : Nat} {t : Bool × Nat × Nat} {m : mMM} (h : 0 < m 2 1 ∧ m 2 1 ≤ 6) : Ev (PP L xs) (d + 1) 89 0 (entL 1 [vR (some 1)]) [] (HS t m) (.inl none) (HS t m) := by
  refine ev_go (pc' := 1) (ls' := [some (vR (some 1))]) (st' := [vR (some 1)]) (h1 := HS t m) 1 (by rfl) ?_
  refine ev_getR rfl rfl (rfl : rf 1 0 = some 2) ?_
  have hty := c_tw_isEmpty (L := L) (xs := xs) (d := d) (t := t) (m := m) (by omega)
  rw [if_neg (by omega)] at hty
  refine ev_call rfl rfl (Nat.le_of_ble_eq_true rfl) hty ⟨Nat.le_refl _, Nat.le_refl _⟩ ?_
  show Ev (PP L xs) _ 89 7 [some (vR (some 1))] [vI 0] (HS t m) _ _
  refine ev_if0 rfl rfl (fun c7 => ?_) (fun c7 => absurd c7 (by decide))
  exact ev_retE rfl rfl (by first | rfl | (simp [*]; done) | (split <;> first | rfl | (exfalso; omega))) (by first | rfl | (simp [*]; done) | (split <;> first | rfl | (exfalso; omega)))
set_option maxRecDepth 10000 in
theorem c_reqTypedX {L : Nat} {xs : Nat → Int32} {d : Nat} {t : Bool × Nat × Nat} {m : mMM} (hd : 6 ≤ d) (h : m 2 1 = 0) : Ev (PP L xs) (d + 1) 89 0 (entL 1 [vR (some 1)]) [] (HS t m) (.inr 1) (HS (tt t) m) := by
  refine ev_go (pc' := 1) (ls' := [some (vR (some 1))]) (st' := [vR (some 1)]) (h1 := HS t m) 1 (by rfl) ?_
  refine ev_getR rfl rfl (rfl : rf 1 0 = some 2) ?_
  have hty := c_tw_isEmpty (L := L) (xs := xs) (d := d) (t := t) (m := m) (by omega)
  rw [if_pos (by omega)] at hty
  refine ev_call rfl rfl (Nat.le_of_ble_eq_true rfl) hty ⟨Nat.le_refl _, Nat.le_refl _⟩ ?_
  show Ev (PP L xs) _ 89 7 [some (vR (some 1))] [vI 1] (HS t m) _ _
  refine ev_if0 rfl rfl (fun c7 => absurd c7 (by decide)) (fun c7 => ?_)
  exact ev_thr (by omega) rfl rfl
set_option maxRecDepth 10000 in
theorem c_reqSent {L : Nat} {xs : Nat → Int32} {d : Nat} {t : Bool × Nat × Nat} {m : mMM} {n : Nat} (hn : m 75 2 = (n : Int)) (hn5 : n ≤ 5) (hp : 0 < n) : Ev (PP L xs) (d + 1) 90 0 (entL 1 [vR (some 1)]) [] (HS t m) (.inl none) (HS t m) := by
  refine ev_go (pc' := 1) (ls' := [some (vR (some 1))]) (st' := [vR (some 1)]) (h1 := HS t m) 1 (by rfl) ?_
  refine ev_getR rfl rfl (rfl : rf 1 2 = some 75) ?_
  have hsz := c_se_size (L := L) (xs := xs) (d := d) (t := t) (m := m)
  rw [hn] at hsz
  refine ev_call rfl rfl (Nat.le_of_ble_eq_true rfl) hsz ⟨Nat.le_refl _, Nat.le_refl _⟩ ?_
  show Ev (PP L xs) _ 90 7 [some (vR (some 1))] [vI ((n : Nat) : Int)] (HS t m) _ _
  refine ev_if1 rfl (inI_of (by omega) (by omega)) (fun c7 => ?_) (fun c7 => absurd c7 (by omega))
  exact ev_retE rfl rfl (by first | rfl | (simp [*]; done) | (split <;> first | rfl | (exfalso; omega))) (by first | rfl | (simp [*]; done) | (split <;> first | rfl | (exfalso; omega)))
set_option maxRecDepth 10000 in
theorem c_reqSentX {L : Nat} {xs : Nat → Int32} {d : Nat} {t : Bool × Nat × Nat} {m : mMM} (hd : 6 ≤ d) (hn : m 75 2 = 0) : Ev (PP L xs) (d + 1) 90 0 (entL 1 [vR (some 1)]) [] (HS t m) (.inr 1) (HS (tt t) m) := by
  refine ev_go (pc' := 1) (ls' := [some (vR (some 1))]) (st' := [vR (some 1)]) (h1 := HS t m) 1 (by rfl) ?_
  refine ev_getR rfl rfl (rfl : rf 1 2 = some 75) ?_
  have hsz := c_se_size (L := L) (xs := xs) (d := d) (t := t) (m := m)
  rw [hn] at hsz
  refine ev_call rfl rfl (Nat.le_of_ble_eq_true rfl) hsz ⟨Nat.le_refl _, Nat.le_refl _⟩ ?_
  show Ev (PP L xs) _ 90 7 [some (vR (some 1))] [vI 0] (HS t m) _ _
  refine ev_if1 rfl rfl (fun c7 => absurd c7 (by decide)) (fun c7 => ?_)
  exact ev_thr (by omega) rfl rfl
