/-! ===== the model's calls: letter, tag, add, text, word, clear, lock, texts (numbers alone) ===== -/
set_option maxRecDepth 10000 in
theorem m_isIn {L : Nat} {xs : Nat → Int32} {d : Nat} {t : Bool × Nat × Nat} {m : mMM} {x a b : Int} (hx : inI x = true) (ha : inI a = true) (hb : inI b = true) : Ev (PP L xs) d 94 0 (entL 3 [vI x, vI a, vI b]) [] (HS t m) (.inl (some (vI (if a ≤ x ∧ x ≤ b then 1 else 0)))) (HS t m) := by
  refine ev_go (pc' := 2) (ls' := [some (vI x), some (vI a), some (vI b)]) (st' := [vI a, vI x]) (h1 := HS t m) 2 (by rfl) ?_
  refine ev_ic2 rfl hx ha (fun c2 => ?_) (fun c2 => ?_)
  · refine ev_go (pc' := 15) (ls' := [some (vI x), some (vI a), some (vI b)]) (st' := [vI 0]) (h1 := HS t m) 1 (by rfl) ?_
    exact ev_retE rfl rfl (by first | rfl | rw [if_pos (by omega)] | rw [if_neg (by omega)]) rfl
  · refine ev_go (pc' := 7) (ls' := [some (vI x), some (vI a), some (vI b)]) (st' := [vI b, vI x]) (h1 := HS t m) 2 (by rfl) ?_
    refine ev_ic4 rfl hx hb (fun c7 => ?_) (fun c7 => ?_)
    · refine ev_go (pc' := 15) (ls' := [some (vI x), some (vI a), some (vI b)]) (st' := [vI 0]) (h1 := HS t m) 1 (by rfl) ?_
      exact ev_retE rfl rfl (by first | rfl | rw [if_pos (by omega)] | rw [if_neg (by omega)]) rfl
    · refine ev_go (pc' := 15) (ls' := [some (vI x), some (vI a), some (vI b)]) (st' := [vI 1]) (h1 := HS t m) 2 (by rfl) ?_
      exact ev_retE rfl rfl (by first | rfl | rw [if_pos (by omega)] | rw [if_neg (by omega)]) rfl
set_option maxRecDepth 10000 in
theorem m_isTag1 {L : Nat} {xs : Nat → Int32} {d : Nat} {t : Bool × Nat × Nat} {m : mMM} {g : Nat} (hg : g < 5) : Ev (PP L xs) (d + 1) 95 0 (entL 1 [vI ((g : Nat) : Int)]) [] (HS t m) (.inl (some (vI 1))) (HS t m) := by
  refine ev_go (pc' := 3) (ls' := [some (vI ((g : Nat) : Int))]) (st' := [vI 4, vI 0, vI ((g : Nat) : Int)]) (h1 := HS t m) 3 (by rfl) ?_
  have hin := m_isIn (L := L) (xs := xs) (t := t) (m := m) (d := d) (x := ((g : Nat) : Int)) (a := 0) (b := 4) (inI_of (by omega) (by omega)) rfl rfl
  rw [if_pos (by omega)] at hin
  refine ev_call rfl rfl (Nat.le_of_ble_eq_true rfl) hin ⟨Nat.le_refl _, Nat.le_refl _⟩ ?_
  show Ev (PP L xs) _ 95 6 [some (vI ((g : Nat) : Int))] [vI 1] (HS t m) _ _
  exact ev_retE rfl rfl (by first | rfl | (simp [*]; done) | (split <;> first | rfl | (exfalso; omega))) (by first | rfl | (simp [*]; done) | (split <;> first | rfl | (exfalso; omega)))
set_option maxRecDepth 10000 in
theorem m_isTag0 {L : Nat} {xs : Nat → Int32} {d : Nat} {t : Bool × Nat × Nat} {m : mMM} {x : Int} (hI : inI x = true) (h : x < 0 ∨ 5 ≤ x) : Ev (PP L xs) (d + 1) 95 0 (entL 1 [vI x]) [] (HS t m) (.inl (some (vI 0))) (HS t m) := by
  refine ev_go (pc' := 3) (ls' := [some (vI x)]) (st' := [vI 4, vI 0, vI x]) (h1 := HS t m) 3 (by rfl) ?_
  have hin := m_isIn (L := L) (xs := xs) (t := t) (m := m) (d := d) (x := x) (a := 0) (b := 4) hI rfl rfl
  rw [if_neg (by omega)] at hin
  refine ev_call rfl rfl (Nat.le_of_ble_eq_true rfl) hin ⟨Nat.le_refl _, Nat.le_refl _⟩ ?_
  show Ev (PP L xs) _ 95 6 [some (vI x)] [vI 0] (HS t m) _ _
  exact ev_retE rfl rfl (by first | rfl | (simp [*]; done) | (split <;> first | rfl | (exfalso; omega))) (by first | rfl | (simp [*]; done) | (split <;> first | rfl | (exfalso; omega)))
set_option maxRecDepth 10000 in
theorem m_isRank1 {L : Nat} {xs : Nat → Int32} {d : Nat} {t : Bool × Nat × Nat} {m : mMM} {g : Nat} (hg : g < 10) : Ev (PP L xs) (d + 1) 116 0 (entL 1 [vI ((g : Nat) : Int)]) [] (HS t m) (.inl (some (vI 1))) (HS t m) := by
  refine ev_go (pc' := 4) (ls' := [some (vI ((g : Nat) : Int))]) (st' := [vI 9, vI 0, vI ((g : Nat) : Int)]) (h1 := HS t m) 3 (by rfl) ?_
  have hin := m_isIn (L := L) (xs := xs) (t := t) (m := m) (d := d) (x := ((g : Nat) : Int)) (a := 0) (b := 9) (inI_of (by omega) (by omega)) rfl rfl
  rw [if_pos (by omega)] at hin
  refine ev_call rfl rfl (Nat.le_of_ble_eq_true rfl) hin ⟨Nat.le_refl _, Nat.le_refl _⟩ ?_
  show Ev (PP L xs) _ 116 7 [some (vI ((g : Nat) : Int))] [vI 1] (HS t m) _ _
  exact ev_retE rfl rfl (by first | rfl | (simp [*]; done) | (split <;> first | rfl | (exfalso; omega))) (by first | rfl | (simp [*]; done) | (split <;> first | rfl | (exfalso; omega)))
set_option maxRecDepth 10000 in
theorem m_isRank0 {L : Nat} {xs : Nat → Int32} {d : Nat} {t : Bool × Nat × Nat} {m : mMM} {x : Int} (hI : inI x = true) (h : x < 0 ∨ 10 ≤ x) : Ev (PP L xs) (d + 1) 116 0 (entL 1 [vI x]) [] (HS t m) (.inl (some (vI 0))) (HS t m) := by
  refine ev_go (pc' := 4) (ls' := [some (vI x)]) (st' := [vI 9, vI 0, vI x]) (h1 := HS t m) 3 (by rfl) ?_
  have hin := m_isIn (L := L) (xs := xs) (t := t) (m := m) (d := d) (x := x) (a := 0) (b := 9) hI rfl rfl
  rw [if_neg (by omega)] at hin
  refine ev_call rfl rfl (Nat.le_of_ble_eq_true rfl) hin ⟨Nat.le_refl _, Nat.le_refl _⟩ ?_
  show Ev (PP L xs) _ 116 7 [some (vI x)] [vI 0] (HS t m) _ _
  exact ev_retE rfl rfl (by first | rfl | (simp [*]; done) | (split <;> first | rfl | (exfalso; omega))) (by first | rfl | (simp [*]; done) | (split <;> first | rfl | (exfalso; omega)))
set_option maxRecDepth 10000 in
theorem m_isPlace1 {L : Nat} {xs : Nat → Int32} {d : Nat} {t : Bool × Nat × Nat} {m : mMM} {g n : Nat} (hn : m 190 13 = (n : Int)) (hn5 : n ≤ 5) (hg : g < n) : Ev (PP L xs) (d + 1) 96 0 (entL 2 [vR (some 190), vI ((g : Nat) : Int)]) [] (HS t m) (.inl (some (vI 1))) (HS t m) := by
  refine ev_go (pc' := 3) (ls' := [some (vR (some 190)), some (vI ((g : Nat) : Int))]) (st' := [vR (some 190), vI 0, vI ((g : Nat) : Int)]) (h1 := HS t m) 3 (by rfl) ?_
  refine ev_getIv (v := ((n : Nat) : Int)) rfl rfl (hn) ?_
  refine ev_go (pc' := 8) (ls' := [some (vR (some 190)), some (vI ((g : Nat) : Int))]) (st' := [vI (((n : Nat) : Int) - 1), vI 0, vI ((g : Nat) : Int)]) (h1 := HS t m) 2 (by rfl) ?_
  have hin := m_isIn (L := L) (xs := xs) (t := t) (m := m) (d := d) (x := ((g : Nat) : Int)) (a := 0) (b := (((n : Nat) : Int) - 1)) (inI_of (by omega) (by omega)) rfl (inI_of (by omega) (by omega))
  rw [if_pos (by omega)] at hin
  refine ev_call rfl rfl (Nat.le_of_ble_eq_true rfl) hin ⟨Nat.le_refl _, Nat.le_refl _⟩ ?_
  show Ev (PP L xs) _ 96 11 [some (vR (some 190)), some (vI ((g : Nat) : Int))] [vI 1] (HS t m) _ _
  exact ev_retE rfl rfl (by first | rfl | (simp [*]; done) | (split <;> first | rfl | (exfalso; omega))) (by first | rfl | (simp [*]; done) | (split <;> first | rfl | (exfalso; omega)))
set_option maxRecDepth 10000 in
theorem m_isPlace0 {L : Nat} {xs : Nat → Int32} {d : Nat} {t : Bool × Nat × Nat} {m : mMM} {n : Nat} {x : Int} (hn : m 190 13 = (n : Int)) (hn5 : n ≤ 5) (hI : inI x = true) (h : x < 0 ∨ (n : Int) ≤ x) : Ev (PP L xs) (d + 1) 96 0 (entL 2 [vR (some 190), vI x]) [] (HS t m) (.inl (some (vI 0))) (HS t m) := by
  refine ev_go (pc' := 3) (ls' := [some (vR (some 190)), some (vI x)]) (st' := [vR (some 190), vI 0, vI x]) (h1 := HS t m) 3 (by rfl) ?_
  refine ev_getIv (v := ((n : Nat) : Int)) rfl rfl (hn) ?_
  refine ev_go (pc' := 8) (ls' := [some (vR (some 190)), some (vI x)]) (st' := [vI (((n : Nat) : Int) - 1), vI 0, vI x]) (h1 := HS t m) 2 (by rfl) ?_
  have hin := m_isIn (L := L) (xs := xs) (t := t) (m := m) (d := d) (x := x) (a := 0) (b := (((n : Nat) : Int) - 1)) hI rfl (inI_of (by omega) (by omega))
  rw [if_neg (by omega)] at hin
  refine ev_call rfl rfl (Nat.le_of_ble_eq_true rfl) hin ⟨Nat.le_refl _, Nat.le_refl _⟩ ?_
  show Ev (PP L xs) _ 96 11 [some (vR (some 190)), some (vI x)] [vI 0] (HS t m) _ _
  exact ev_retE rfl rfl (by first | rfl | (simp [*]; done) | (split <;> first | rfl | (exfalso; omega))) (by first | rfl | (simp [*]; done) | (split <;> first | rfl | (exfalso; omega)))
set_option maxRecDepth 10000 in
theorem m_holds {L : Nat} {xs : Nat → Int32} {d : Nat} {t : Bool × Nat × Nat} {m : mMM} {x : Int} (hx : inI x = true) : Ev (PP L xs) d 93 0 (entL 2 [vR (some 190), vI x]) [] (HS t m) (.inl (some (vI (if x = 0 then 1 else 0)))) (HS t (up m 190 0 x)) := by
  refine ev_go (pc' := 2) (ls' := [some (vR (some 190)), some (vI x)]) (st' := [vI x, vR (some 190)]) (h1 := HS t m) 2 (by rfl) ?_
  refine ev_putI rfl rfl ?_
  refine ev_go (pc' := 6) (ls' := [some (vR (some 190)), some (vI x)]) (st' := [vI x]) (h1 := HS t (up m 190 0 x)) 1 (by rfl) ?_
  refine ev_if1 rfl hx (fun c6 => ?_) (fun c6 => ?_)
  · refine ev_go (pc' := 14) (ls' := [some (vR (some 190)), some (vI x)]) (st' := [vI 0]) (h1 := HS t (up m 190 0 x)) 1 (by rfl) ?_
    exact ev_retE rfl rfl (by first | rfl | rw [if_pos (by omega)] | rw [if_neg (by omega)]) rfl
  · refine ev_go (pc' := 14) (ls' := [some (vR (some 190)), some (vI x)]) (st' := [vI 1]) (h1 := HS t (up m 190 0 x)) 2 (by rfl) ?_
    exact ev_retE rfl rfl (by first | rfl | rw [if_pos (by omega)] | rw [if_neg (by omega)]) rfl
set_option maxRecDepth 10000 in
theorem m_thrown {L : Nat} {xs : Nat → Int32} {d : Nat} {t : Bool × Nat × Nat} {m : mMM}  : Ev (PP L xs) d 92 0 (entL 1 [vR (some 190)]) [] (HS t m) (.inl (some (vI (m 190 0)))) (HS t m) := by
  refine ev_go (pc' := 1) (ls' := [some (vR (some 190))]) (st' := [vR (some 190)]) (h1 := HS t m) 1 (by rfl) ?_
  refine ev_getI rfl rfl ?_
  exact ev_retE rfl rfl (by first | rfl | (simp [*]; done) | (split <;> first | rfl | (exfalso; omega))) (by first | rfl | (simp [*]; done) | (split <;> first | rfl | (exfalso; omega)))
set_option maxRecDepth 10000 in
theorem m_takes {L : Nat} {xs : Nat → Int32} {d : Nat} {t : Bool × Nat × Nat} {m : mMM}  : Ev (PP L xs) d 98 0 (entL 2 [vR (some 190)]) [] (HS t m) (.inl (some (vI (m 190 1)))) (HS t (up (up m 190 1 0) 190 2 0)) := by
  refine ev_go (pc' := 1) (ls' := [some (vR (some 190)), none]) (st' := [vR (some 190)]) (h1 := HS t m) 1 (by rfl) ?_
  refine ev_getI rfl rfl ?_
  refine ev_go (pc' := 7) (ls' := [some (vR (some 190)), some (vI (m 190 1))]) (st' := [vI 0, vR (some 190)]) (h1 := HS t m) 3 (by rfl) ?_
  refine ev_putI rfl rfl ?_
  refine ev_go (pc' := 12) (ls' := [some (vR (some 190)), some (vI (m 190 1))]) (st' := [vI 0, vR (some 190)]) (h1 := HS t (up m 190 1 0)) 2 (by rfl) ?_
  refine ev_putI rfl rfl ?_
  refine ev_go (pc' := 16) (ls' := [some (vR (some 190)), some (vI (m 190 1))]) (st' := [vI (m 190 1)]) (h1 := HS t (up (up m 190 1 0) 190 2 0)) 1 (by rfl) ?_
  exact ev_retE rfl rfl (by first | rfl | (simp [*]; done) | (split <;> first | rfl | (exfalso; omega))) (by first | rfl | (simp [*]; done) | (split <;> first | rfl | (exfalso; omega)))
set_option maxRecDepth 10000 in
theorem m_letterX1 {L : Nat} {xs : Nat → Int32} {t : Bool × Nat × Nat} {m : mMM} {c : Int} (h : c < 97 ∨ 122 < c) (hI : -2147483648 ≤ c ∧ c < 2147483648) : Ev (PP L xs) 10 97 0 (entL 2 [vR (some 190), vI c]) [] (HS t m) (.inl (some (vI 0))) (HS t (up m 190 0 1)) := by
  refine ev_go (pc' := 6) (ls' := [some (vR (some 190)), some (vI c)]) (st' := [vI 122, vI 97, vI c, vR (some 190)]) (h1 := HS t m) 4 (by rfl) ?_
  have hin := m_isIn (L := L) (xs := xs) (t := t) (m := m) (d := 9) (x := c) (a := 97) (b := 122) (inI_of (by omega) (by omega)) rfl rfl
  rw [if_neg (by omega)] at hin
  refine ev_call rfl rfl (Nat.le_of_ble_eq_true rfl) hin ⟨Nat.le_refl _, Nat.le_refl _⟩ ?_
  show Ev (PP L xs) _ 97 9 [some (vR (some 190)), some (vI c)] [vI 0, vR (some 190)] (HS t m) _ _
  refine ev_if1 rfl rfl (fun c9 => absurd c9 (by decide)) (fun c9 => ?_)
  refine ev_go (pc' := 30) (ls' := [some (vR (some 190)), some (vI c)]) (st' := [vI 1, vR (some 190)]) (h1 := HS t m) 2 (by rfl) ?_
  refine ev_call rfl rfl (Nat.le_of_ble_eq_true rfl) (m_holds (x := 1) rfl) ⟨Nat.le_refl _, Nat.le_refl _⟩ ?_
  show Ev (PP L xs) _ 97 33 [some (vR (some 190)), some (vI c)] [vI 0] (HS t (up m 190 0 1)) _ _
  refine ev_if1 rfl rfl (fun c33 => absurd c33 (by decide)) (fun c33 => ?_)
  refine ev_go (pc' := 37) (ls' := [some (vR (some 190)), some (vI c)]) (st' := [vI 0]) (h1 := HS t (up m 190 0 1)) 1 (by rfl) ?_
  exact ev_retE rfl rfl (by first | rfl | (simp [*]; done) | (split <;> first | rfl | (exfalso; omega))) (by first | rfl | (simp [*]; done) | (split <;> first | rfl | (exfalso; omega)))
set_option maxRecDepth 10000 in
theorem m_letterX2 {L : Nat} {xs : Nat → Int32} {t : Bool × Nat × Nat} {m : mMM} {c : Int} (h : 97 ≤ c ∧ c ≤ 122) (hk : m 190 2 = 6) : Ev (PP L xs) 10 97 0 (entL 2 [vR (some 190), vI c]) [] (HS t m) (.inl (some (vI 0))) (HS t (up m 190 0 2)) := by
  refine ev_go (pc' := 6) (ls' := [some (vR (some 190)), some (vI c)]) (st' := [vI 122, vI 97, vI c, vR (some 190)]) (h1 := HS t m) 4 (by rfl) ?_
  have hin := m_isIn (L := L) (xs := xs) (t := t) (m := m) (d := 9) (x := c) (a := 97) (b := 122) (inI_of (by omega) (by omega)) rfl rfl
  rw [if_pos (by omega)] at hin
  refine ev_call rfl rfl (Nat.le_of_ble_eq_true rfl) hin ⟨Nat.le_refl _, Nat.le_refl _⟩ ?_
  show Ev (PP L xs) _ 97 9 [some (vR (some 190)), some (vI c)] [vI 1, vR (some 190)] (HS t m) _ _
  refine ev_if1 rfl rfl (fun c9 => ?_) (fun c9 => absurd c9 (by decide))
  refine ev_go (pc' := 17) (ls' := [some (vR (some 190)), some (vI c)]) (st' := [vR (some 190), vR (some 190)]) (h1 := HS t m) 1 (by rfl) ?_
  refine ev_getIv (v := 6) rfl rfl (hk) ?_
  refine ev_go (pc' := 22) (ls' := [some (vR (some 190)), some (vI c)]) (st' := [vI 6, vI 6, vR (some 190)]) (h1 := HS t m) 1 (by rfl) ?_
  refine ev_ic1 rfl rfl rfl (fun c22 => absurd c22 (by decide)) (fun c22 => ?_)
  refine ev_go (pc' := 30) (ls' := [some (vR (some 190)), some (vI c)]) (st' := [vI 2, vR (some 190)]) (h1 := HS t m) 2 (by rfl) ?_
  refine ev_call rfl rfl (Nat.le_of_ble_eq_true rfl) (m_holds (x := 2) rfl) ⟨Nat.le_refl _, Nat.le_refl _⟩ ?_
  show Ev (PP L xs) _ 97 33 [some (vR (some 190)), some (vI c)] [vI 0] (HS t (up m 190 0 2)) _ _
  refine ev_if1 rfl rfl (fun c33 => absurd c33 (by decide)) (fun c33 => ?_)
  refine ev_go (pc' := 37) (ls' := [some (vR (some 190)), some (vI c)]) (st' := [vI 0]) (h1 := HS t (up m 190 0 2)) 1 (by rfl) ?_
  exact ev_retE rfl rfl (by first | rfl | (simp [*]; done) | (split <;> first | rfl | (exfalso; omega))) (by first | rfl | (simp [*]; done) | (split <;> first | rfl | (exfalso; omega)))
set_option maxRecDepth 10000 in
theorem m_letter0 {L : Nat} {xs : Nat → Int32} {t : Bool × Nat × Nat} {m : mMM} {c : Int} {k : Nat} (h : 97 ≤ c ∧ c ≤ 122) (hk : m 190 2 = (k : Int)) (hk6 : k < 6) : Ev (PP L xs) 10 97 0 (entL 2 [vR (some 190), vI c]) [] (HS t m) (.inl (some (vI ((k + 1 : Nat) : Int)))) (HS t (up (up (up m 190 0 0) 190 1 (27 * m 190 1 + c - 97 + 1)) 190 2 ((k + 1 : Nat) : Int))) := by
  refine ev_go (pc' := 6) (ls' := [some (vR (some 190)), some (vI c)]) (st' := [vI 122, vI 97, vI c, vR (some 190)]) (h1 := HS t m) 4 (by rfl) ?_
  have hin := m_isIn (L := L) (xs := xs) (t := t) (m := m) (d := 9) (x := c) (a := 97) (b := 122) (inI_of (by omega) (by omega)) rfl rfl
  rw [if_pos (by omega)] at hin
  refine ev_call rfl rfl (Nat.le_of_ble_eq_true rfl) hin ⟨Nat.le_refl _, Nat.le_refl _⟩ ?_
  show Ev (PP L xs) _ 97 9 [some (vR (some 190)), some (vI c)] [vI 1, vR (some 190)] (HS t m) _ _
  refine ev_if1 rfl rfl (fun c9 => ?_) (fun c9 => absurd c9 (by decide))
  refine ev_go (pc' := 17) (ls' := [some (vR (some 190)), some (vI c)]) (st' := [vR (some 190), vR (some 190)]) (h1 := HS t m) 1 (by rfl) ?_
  refine ev_getIv (v := ((k : Nat) : Int)) rfl rfl (hk) ?_
  refine ev_go (pc' := 22) (ls' := [some (vR (some 190)), some (vI c)]) (st' := [vI 6, vI ((k : Nat) : Int), vR (some 190)]) (h1 := HS t m) 1 (by rfl) ?_
  refine ev_ic1 rfl (inI_of (by omega) (by omega)) rfl (fun c22 => ?_) (fun c22 => absurd c22 (by omega))
  refine ev_go (pc' := 30) (ls' := [some (vR (some 190)), some (vI c)]) (st' := [vI 0, vR (some 190)]) (h1 := HS t m) 1 (by rfl) ?_
  refine ev_call rfl rfl (Nat.le_of_ble_eq_true rfl) (m_holds (x := 0) rfl) ⟨Nat.le_refl _, Nat.le_refl _⟩ ?_
  show Ev (PP L xs) _ 97 33 [some (vR (some 190)), some (vI c)] [vI 1] (HS t (up m 190 0 0)) _ _
  refine ev_if1 rfl rfl (fun c33 => ?_) (fun c33 => absurd c33 (by decide))
  refine ev_go (pc' := 42) (ls' := [some (vR (some 190)), some (vI c)]) (st' := [vR (some 190), vI 27, vR (some 190)]) (h1 := HS t (up m 190 0 0)) 3 (by rfl) ?_
  refine ev_getIv (v := (m 190 1)) rfl rfl (up_ne2 _ _ (by decide)) ?_
  refine ev_go (pc' := 53) (ls' := [some (vR (some 190)), some (vI c)]) (st' := [vI ((((27 * (m 190 1)) + c) - 97) + 1), vR (some 190)]) (h1 := HS t (up m 190 0 0)) 7 (by rfl) ?_
  refine ev_putI rfl rfl ?_
  refine ev_go (pc' := 58) (ls' := [some (vR (some 190)), some (vI c)]) (st' := [vR (some 190), vR (some 190)]) (h1 := HS t (up (up m 190 0 0) 190 1 ((((27 * (m 190 1)) + c) - 97) + 1))) 2 (by rfl) ?_
  refine ev_getIv (v := ((k : Nat) : Int)) rfl rfl ((up_ne2 _ _ (by decide)).trans ((up_ne2 _ _ (by decide)).trans (hk))) ?_
  refine ev_go (pc' := 63) (ls' := [some (vR (some 190)), some (vI c)]) (st' := [vI ((k + 1 : Nat) : Int), vR (some 190)]) (h1 := HS t (up (up m 190 0 0) 190 1 ((((27 * (m 190 1)) + c) - 97) + 1))) 2 (by rfl) ?_
  refine ev_putI rfl rfl ?_
  refine ev_go (pc' := 67) (ls' := [some (vR (some 190)), some (vI c)]) (st' := [vR (some 190)]) (h1 := HS t (up (up (up m 190 0 0) 190 1 ((((27 * (m 190 1)) + c) - 97) + 1)) 190 2 ((k + 1 : Nat) : Int))) 1 (by rfl) ?_
  refine ev_getIv (v := ((k + 1 : Nat) : Int)) rfl rfl (up_eq _ _ _ _) ?_
  exact ev_retE rfl rfl (by first | rfl | (simp [*]; done) | (split <;> first | rfl | (exfalso; omega))) (by first | rfl | (simp [*]; done) | (split <;> first | rfl | (exfalso; omega)))
set_option maxRecDepth 10000 in
theorem m_tagX1 {L : Nat} {xs : Nat → Int32} {t : Bool × Nat × Nat} {m : mMM} {x : Int} (h : x < 0 ∨ 5 ≤ x) (hI : inI x = true) : Ev (PP L xs) 10 99 0 (entL 2 [vR (some 190), vI x]) [] (HS t m) (.inl (some (vI 0))) (HS t (up m 190 0 1)) := by
  refine ev_go (pc' := 2) (ls' := [some (vR (some 190)), some (vI x)]) (st' := [vI x, vR (some 190)]) (h1 := HS t m) 2 (by rfl) ?_
  refine ev_call rfl rfl (Nat.le_of_ble_eq_true rfl) (m_isTag0 hI h) ⟨Nat.le_refl _, Nat.le_refl _⟩ ?_
  show Ev (PP L xs) _ 99 5 [some (vR (some 190)), some (vI x)] [vI 0, vR (some 190)] (HS t m) _ _
  refine ev_if1 rfl rfl (fun c5 => absurd c5 (by decide)) (fun c5 => ?_)
  refine ev_go (pc' := 33) (ls' := [some (vR (some 190)), some (vI x)]) (st' := [vI 1, vR (some 190)]) (h1 := HS t m) 2 (by rfl) ?_
  refine ev_call rfl rfl (Nat.le_of_ble_eq_true rfl) (m_holds (x := 1) rfl) ⟨Nat.le_refl _, Nat.le_refl _⟩ ?_
  show Ev (PP L xs) _ 99 36 [some (vR (some 190)), some (vI x)] [vI 0] (HS t (up m 190 0 1)) _ _
  refine ev_if1 rfl rfl (fun c36 => absurd c36 (by decide)) (fun c36 => ?_)
  refine ev_go (pc' := 40) (ls' := [some (vR (some 190)), some (vI x)]) (st' := [vI 0]) (h1 := HS t (up m 190 0 1)) 1 (by rfl) ?_
  exact ev_retE rfl rfl (by first | rfl | (simp [*]; done) | (split <;> first | rfl | (exfalso; omega))) (by first | rfl | (simp [*]; done) | (split <;> first | rfl | (exfalso; omega)))
set_option maxRecDepth 10000 in
theorem m_tagX2 {L : Nat} {xs : Nat → Int32} {t : Bool × Nat × Nat} {m : mMM} {g : Nat} (hg : g < 5) (hk : m 190 2 = 0) : Ev (PP L xs) 10 99 0 (entL 2 [vR (some 190), vI ((g : Nat) : Int)]) [] (HS t m) (.inl (some (vI 0))) (HS t (up m 190 0 2)) := by
  refine ev_go (pc' := 2) (ls' := [some (vR (some 190)), some (vI ((g : Nat) : Int))]) (st' := [vI ((g : Nat) : Int), vR (some 190)]) (h1 := HS t m) 2 (by rfl) ?_
  refine ev_call rfl rfl (Nat.le_of_ble_eq_true rfl) (m_isTag1 hg) ⟨Nat.le_refl _, Nat.le_refl _⟩ ?_
  show Ev (PP L xs) _ 99 5 [some (vR (some 190)), some (vI ((g : Nat) : Int))] [vI 1, vR (some 190)] (HS t m) _ _
  refine ev_if1 rfl rfl (fun c5 => ?_) (fun c5 => absurd c5 (by decide))
  refine ev_go (pc' := 13) (ls' := [some (vR (some 190)), some (vI ((g : Nat) : Int))]) (st' := [vR (some 190), vR (some 190)]) (h1 := HS t m) 1 (by rfl) ?_
  refine ev_getIv (v := 0) rfl rfl (hk) ?_
  refine ev_if0 rfl rfl (fun c16 => ?_) (fun c16 => absurd c16 (by decide))
  refine ev_go (pc' := 33) (ls' := [some (vR (some 190)), some (vI ((g : Nat) : Int))]) (st' := [vI 2, vR (some 190)]) (h1 := HS t m) 2 (by rfl) ?_
  refine ev_call rfl rfl (Nat.le_of_ble_eq_true rfl) (m_holds (x := 2) rfl) ⟨Nat.le_refl _, Nat.le_refl _⟩ ?_
  show Ev (PP L xs) _ 99 36 [some (vR (some 190)), some (vI ((g : Nat) : Int))] [vI 0] (HS t (up m 190 0 2)) _ _
  refine ev_if1 rfl rfl (fun c36 => absurd c36 (by decide)) (fun c36 => ?_)
  refine ev_go (pc' := 40) (ls' := [some (vR (some 190)), some (vI ((g : Nat) : Int))]) (st' := [vI 0]) (h1 := HS t (up m 190 0 2)) 1 (by rfl) ?_
  exact ev_retE rfl rfl (by first | rfl | (simp [*]; done) | (split <;> first | rfl | (exfalso; omega))) (by first | rfl | (simp [*]; done) | (split <;> first | rfl | (exfalso; omega)))
set_option maxRecDepth 10000 in
theorem m_tagX3 {L : Nat} {xs : Nat → Int32} {t : Bool × Nat × Nat} {m : mMM} {g k : Nat} (hg : g < 5) (hk : m 190 2 = (k : Int)) (hk0 : 0 < k ∧ k ≤ 6) (hz : m 190 5 = 6) : Ev (PP L xs) 10 99 0 (entL 2 [vR (some 190), vI ((g : Nat) : Int)]) [] (HS t m) (.inl (some (vI 0))) (HS t (up m 190 0 2)) := by
  refine ev_go (pc' := 2) (ls' := [some (vR (some 190)), some (vI ((g : Nat) : Int))]) (st' := [vI ((g : Nat) : Int), vR (some 190)]) (h1 := HS t m) 2 (by rfl) ?_
  refine ev_call rfl rfl (Nat.le_of_ble_eq_true rfl) (m_isTag1 hg) ⟨Nat.le_refl _, Nat.le_refl _⟩ ?_
  show Ev (PP L xs) _ 99 5 [some (vR (some 190)), some (vI ((g : Nat) : Int))] [vI 1, vR (some 190)] (HS t m) _ _
  refine ev_if1 rfl rfl (fun c5 => ?_) (fun c5 => absurd c5 (by decide))
  refine ev_go (pc' := 13) (ls' := [some (vR (some 190)), some (vI ((g : Nat) : Int))]) (st' := [vR (some 190), vR (some 190)]) (h1 := HS t m) 1 (by rfl) ?_
  refine ev_getIv (v := ((k : Nat) : Int)) rfl rfl (hk) ?_
  refine ev_if0 rfl (inI_of (by omega) (by omega)) (fun c16 => absurd c16 (by omega)) (fun c16 => ?_)
  refine ev_go (pc' := 20) (ls' := [some (vR (some 190)), some (vI ((g : Nat) : Int))]) (st' := [vR (some 190), vR (some 190)]) (h1 := HS t m) 1 (by rfl) ?_
  refine ev_getIv (v := 6) rfl rfl (hz) ?_
  refine ev_go (pc' := 25) (ls' := [some (vR (some 190)), some (vI ((g : Nat) : Int))]) (st' := [vI 6, vI 6, vR (some 190)]) (h1 := HS t m) 1 (by rfl) ?_
  refine ev_ic1 rfl rfl rfl (fun c25 => absurd c25 (by decide)) (fun c25 => ?_)
  refine ev_go (pc' := 33) (ls' := [some (vR (some 190)), some (vI ((g : Nat) : Int))]) (st' := [vI 2, vR (some 190)]) (h1 := HS t m) 2 (by rfl) ?_
  refine ev_call rfl rfl (Nat.le_of_ble_eq_true rfl) (m_holds (x := 2) rfl) ⟨Nat.le_refl _, Nat.le_refl _⟩ ?_
  show Ev (PP L xs) _ 99 36 [some (vR (some 190)), some (vI ((g : Nat) : Int))] [vI 0] (HS t (up m 190 0 2)) _ _
  refine ev_if1 rfl rfl (fun c36 => absurd c36 (by decide)) (fun c36 => ?_)
  refine ev_go (pc' := 40) (ls' := [some (vR (some 190)), some (vI ((g : Nat) : Int))]) (st' := [vI 0]) (h1 := HS t (up m 190 0 2)) 1 (by rfl) ?_
  exact ev_retE rfl rfl (by first | rfl | (simp [*]; done) | (split <;> first | rfl | (exfalso; omega))) (by first | rfl | (simp [*]; done) | (split <;> first | rfl | (exfalso; omega)))
set_option maxRecDepth 10000 in
theorem m_tag0 {L : Nat} {xs : Nat → Int32} {t : Bool × Nat × Nat} {m : mMM} {g k z : Nat} (hg : g < 5) (hk : m 190 2 = (k : Int)) (hk0 : 0 < k ∧ k ≤ 6) (hz : m 190 5 = (z : Int)) (hz6 : z < 6) : Ev (PP L xs) 10 99 0 (entL 2 [vR (some 190), vI ((g : Nat) : Int)]) [] (HS t m) (.inl (some (vI ((z + 1 : Nat) : Int)))) (HS t (up (up (up (up (up (up m 190 0 0) 190 1 0) 190 2 0) 191 z (m 190 1)) 192 z ((g : Nat) : Int)) 190 5 ((z + 1 : Nat) : Int))) := by
  refine ev_go (pc' := 2) (ls' := [some (vR (some 190)), some (vI ((g : Nat) : Int))]) (st' := [vI ((g : Nat) : Int), vR (some 190)]) (h1 := HS t m) 2 (by rfl) ?_
  refine ev_call rfl rfl (Nat.le_of_ble_eq_true rfl) (m_isTag1 hg) ⟨Nat.le_refl _, Nat.le_refl _⟩ ?_
  show Ev (PP L xs) _ 99 5 [some (vR (some 190)), some (vI ((g : Nat) : Int))] [vI 1, vR (some 190)] (HS t m) _ _
  refine ev_if1 rfl rfl (fun c5 => ?_) (fun c5 => absurd c5 (by decide))
  refine ev_go (pc' := 13) (ls' := [some (vR (some 190)), some (vI ((g : Nat) : Int))]) (st' := [vR (some 190), vR (some 190)]) (h1 := HS t m) 1 (by rfl) ?_
  refine ev_getIv (v := ((k : Nat) : Int)) rfl rfl (hk) ?_
  refine ev_if0 rfl (inI_of (by omega) (by omega)) (fun c16 => absurd c16 (by omega)) (fun c16 => ?_)
  refine ev_go (pc' := 20) (ls' := [some (vR (some 190)), some (vI ((g : Nat) : Int))]) (st' := [vR (some 190), vR (some 190)]) (h1 := HS t m) 1 (by rfl) ?_
  refine ev_getIv (v := ((z : Nat) : Int)) rfl rfl (hz) ?_
  refine ev_go (pc' := 25) (ls' := [some (vR (some 190)), some (vI ((g : Nat) : Int))]) (st' := [vI 6, vI ((z : Nat) : Int), vR (some 190)]) (h1 := HS t m) 1 (by rfl) ?_
  refine ev_ic1 rfl (inI_of (by omega) (by omega)) rfl (fun c25 => ?_) (fun c25 => absurd c25 (by omega))
  refine ev_go (pc' := 33) (ls' := [some (vR (some 190)), some (vI ((g : Nat) : Int))]) (st' := [vI 0, vR (some 190)]) (h1 := HS t m) 1 (by rfl) ?_
  refine ev_call rfl rfl (Nat.le_of_ble_eq_true rfl) (m_holds (x := 0) rfl) ⟨Nat.le_refl _, Nat.le_refl _⟩ ?_
  show Ev (PP L xs) _ 99 36 [some (vR (some 190)), some (vI ((g : Nat) : Int))] [vI 1] (HS t (up m 190 0 0)) _ _
  refine ev_if1 rfl rfl (fun c36 => ?_) (fun c36 => absurd c36 (by decide))
  refine ev_go (pc' := 42) (ls' := [some (vR (some 190)), some (vI ((g : Nat) : Int))]) (st' := [vR (some 190)]) (h1 := HS t (up m 190 0 0)) 1 (by rfl) ?_
  refine ev_getR rfl rfl (rfl : rf 190 3 = some 191) ?_
  refine ev_go (pc' := 46) (ls' := [some (vR (some 190)), some (vI ((g : Nat) : Int))]) (st' := [vR (some 190), vR (some 191)]) (h1 := HS t (up m 190 0 0)) 1 (by rfl) ?_
  refine ev_getIv (v := ((z : Nat) : Int)) rfl rfl ((up_ne2 _ _ (by decide)).trans (hz)) ?_
  refine ev_go (pc' := 50) (ls' := [some (vR (some 190)), some (vI ((g : Nat) : Int))]) (st' := [vR (some 190), vI ((z : Nat) : Int), vR (some 191)]) (h1 := HS t (up m 190 0 0)) 1 (by rfl) ?_
  refine ev_call rfl rfl (Nat.le_of_ble_eq_true rfl) m_takes ⟨Nat.le_refl _, Nat.le_refl _⟩ ?_
  show Ev (PP L xs) _ 99 53 [some (vR (some 190)), some (vI ((g : Nat) : Int))] [vI (m 190 1), vI ((z : Nat) : Int), vR (some 191)] (HS t (up (up (up m 190 0 0) 190 1 0) 190 2 0)) _ _
  refine ev_iast (k := z) rfl rfl rfl (by omega) ?_
  refine ev_go (pc' := 55) (ls' := [some (vR (some 190)), some (vI ((g : Nat) : Int))]) (st' := [vR (some 190)]) (h1 := HS t (up (up (up (up m 190 0 0) 190 1 0) 190 2 0) 191 z (m 190 1))) 1 (by rfl) ?_
  refine ev_getR rfl rfl (rfl : rf 190 4 = some 192) ?_
  refine ev_go (pc' := 59) (ls' := [some (vR (some 190)), some (vI ((g : Nat) : Int))]) (st' := [vR (some 190), vR (some 192)]) (h1 := HS t (up (up (up (up m 190 0 0) 190 1 0) 190 2 0) 191 z (m 190 1))) 1 (by rfl) ?_
  refine ev_getIv (v := ((z : Nat) : Int)) rfl rfl ((up_ne1 _ _ (by decide)).trans ((up_ne2 _ _ (by decide)).trans ((up_ne2 _ _ (by decide)).trans ((up_ne2 _ _ (by decide)).trans (hz))))) ?_
  refine ev_go (pc' := 63) (ls' := [some (vR (some 190)), some (vI ((g : Nat) : Int))]) (st' := [vI ((g : Nat) : Int), vI ((z : Nat) : Int), vR (some 192)]) (h1 := HS t (up (up (up (up m 190 0 0) 190 1 0) 190 2 0) 191 z (m 190 1))) 1 (by rfl) ?_
  refine ev_iast (k := z) rfl rfl rfl (by omega) ?_
  refine ev_go (pc' := 66) (ls' := [some (vR (some 190)), some (vI ((g : Nat) : Int))]) (st' := [vR (some 190), vR (some 190)]) (h1 := HS t (up (up (up (up (up m 190 0 0) 190 1 0) 190 2 0) 191 z (m 190 1)) 192 z ((g : Nat) : Int))) 2 (by rfl) ?_
  refine ev_getIv (v := ((z : Nat) : Int)) rfl rfl ((up_ne1 _ _ (by decide)).trans ((up_ne1 _ _ (by decide)).trans ((up_ne2 _ _ (by decide)).trans ((up_ne2 _ _ (by decide)).trans ((up_ne2 _ _ (by decide)).trans (hz)))))) ?_
  refine ev_go (pc' := 71) (ls' := [some (vR (some 190)), some (vI ((g : Nat) : Int))]) (st' := [vI ((z + 1 : Nat) : Int), vR (some 190)]) (h1 := HS t (up (up (up (up (up m 190 0 0) 190 1 0) 190 2 0) 191 z (m 190 1)) 192 z ((g : Nat) : Int))) 2 (by rfl) ?_
  refine ev_putI rfl rfl ?_
  refine ev_go (pc' := 75) (ls' := [some (vR (some 190)), some (vI ((g : Nat) : Int))]) (st' := [vR (some 190)]) (h1 := HS t (up (up (up (up (up (up m 190 0 0) 190 1 0) 190 2 0) 191 z (m 190 1)) 192 z ((g : Nat) : Int)) 190 5 ((z + 1 : Nat) : Int))) 1 (by rfl) ?_
  refine ev_getIv (v := ((z + 1 : Nat) : Int)) rfl rfl (up_eq _ _ _ _) ?_
  exact ev_retE rfl rfl (by first | rfl | (simp [*]; done) | (split <;> first | rfl | (exfalso; omega))) (by first | rfl | (simp [*]; done) | (split <;> first | rfl | (exfalso; omega)))
set_option maxRecDepth 10000 in
theorem m_addX1 {L : Nat} {xs : Nat → Int32} {t : Bool × Nat × Nat} {m : mMM} (hz : m 190 5 = 0) : Ev (PP L xs) 10 100 0 (entL 2 [vR (some 190)]) [] (HS t m) (.inl (some (vI 0))) (HS t (up m 190 0 1)) := by
  refine ev_go (pc' := 2) (ls' := [some (vR (some 190)), none]) (st' := [vR (some 190), vR (some 190)]) (h1 := HS t m) 2 (by rfl) ?_
  refine ev_getIv (v := 0) rfl rfl (hz) ?_
  refine ev_if0 rfl rfl (fun c5 => ?_) (fun c5 => absurd c5 (by decide))
  refine ev_go (pc' := 22) (ls' := [some (vR (some 190)), none]) (st' := [vI 1, vR (some 190)]) (h1 := HS t m) 2 (by rfl) ?_
  refine ev_call rfl rfl (Nat.le_of_ble_eq_true rfl) (m_holds (x := 1) rfl) ⟨Nat.le_refl _, Nat.le_refl _⟩ ?_
  show Ev (PP L xs) _ 100 25 [some (vR (some 190)), none] [vI 0] (HS t (up m 190 0 1)) _ _
  refine ev_if1 rfl rfl (fun c25 => absurd c25 (by decide)) (fun c25 => ?_)
  refine ev_go (pc' := 29) (ls' := [some (vR (some 190)), none]) (st' := [vI 0]) (h1 := HS t (up m 190 0 1)) 1 (by rfl) ?_
  exact ev_retE rfl rfl (by first | rfl | (simp [*]; done) | (split <;> first | rfl | (exfalso; omega))) (by first | rfl | (simp [*]; done) | (split <;> first | rfl | (exfalso; omega)))
set_option maxRecDepth 10000 in
theorem m_addX2 {L : Nat} {xs : Nat → Int32} {t : Bool × Nat × Nat} {m : mMM} {z : Nat} (hz : m 190 5 = (z : Int)) (hz6 : 0 < z ∧ z ≤ 6) (hn : m 190 10 = 20) : Ev (PP L xs) 10 100 0 (entL 2 [vR (some 190)]) [] (HS t m) (.inl (some (vI 0))) (HS t (up m 190 0 1)) := by
  refine ev_go (pc' := 2) (ls' := [some (vR (some 190)), none]) (st' := [vR (some 190), vR (some 190)]) (h1 := HS t m) 2 (by rfl) ?_
  refine ev_getIv (v := ((z : Nat) : Int)) rfl rfl (hz) ?_
  refine ev_if0 rfl (inI_of (by omega) (by omega)) (fun c5 => absurd c5 (by omega)) (fun c5 => ?_)
  refine ev_go (pc' := 9) (ls' := [some (vR (some 190)), none]) (st' := [vR (some 190), vR (some 190)]) (h1 := HS t m) 1 (by rfl) ?_
  refine ev_getIv (v := 20) rfl rfl (hn) ?_
  refine ev_go (pc' := 14) (ls' := [some (vR (some 190)), none]) (st' := [vI 20, vI 20, vR (some 190)]) (h1 := HS t m) 1 (by rfl) ?_
  refine ev_ic1 rfl rfl rfl (fun c14 => absurd c14 (by decide)) (fun c14 => ?_)
  refine ev_go (pc' := 22) (ls' := [some (vR (some 190)), none]) (st' := [vI 1, vR (some 190)]) (h1 := HS t m) 2 (by rfl) ?_
  refine ev_call rfl rfl (Nat.le_of_ble_eq_true rfl) (m_holds (x := 1) rfl) ⟨Nat.le_refl _, Nat.le_refl _⟩ ?_
  show Ev (PP L xs) _ 100 25 [some (vR (some 190)), none] [vI 0] (HS t (up m 190 0 1)) _ _
  refine ev_if1 rfl rfl (fun c25 => absurd c25 (by decide)) (fun c25 => ?_)
  refine ev_go (pc' := 29) (ls' := [some (vR (some 190)), none]) (st' := [vI 0]) (h1 := HS t (up m 190 0 1)) 1 (by rfl) ?_
  exact ev_retE rfl rfl (by first | rfl | (simp [*]; done) | (split <;> first | rfl | (exfalso; omega))) (by first | rfl | (simp [*]; done) | (split <;> first | rfl | (exfalso; omega)))
set_option maxRecDepth 10000 in
theorem ml_add {L : Nat} {xs : Nat → Int32} {t : Bool × Nat × Nat} {n z : Nat} (hn20 : n < 20) (hz6 : z ≤ 6) : ∀ (c k : Nat) (m : mMM), k + c = z → m 190 5 = (z : Int) → m 190 10 = (n : Int) → ∃ m', (∀ j, j < z → k ≤ j → m' 193 (6 * n + j) = m 191 j ∧ m' 194 (6 * n + j) = m 192 j) ∧ (∀ b j, (b ≠ 193 ∧ b ≠ 194) ∨ j < 6 * n + k → m' b j = m b j) ∧ ∀ o h', Ev (PP L xs) 10 100 86 [some (vR (some 190)), some (vI (z : Int))] [] (HS t m') o h' → Ev (PP L xs) 10 100 32 [some (vR (some 190)), some (vI ((k : Nat) : Int))] [] (HS t m) o h' := by
  intro c
  induction c with
  | zero =>
    intro k m hk hz hn
    have ek : k = z := by omega
    subst ek
    refine ⟨m, fun j h1 h2 => absurd h1 (by omega), fun _ _ _ => rfl, fun o h' hE => ?_⟩
    refine ev_go (pc' := 34) (ls' := [some (vR (some 190)), some (vI ((k : Nat) : Int))]) (st' := [vR (some 190), vI ((k : Nat) : Int)]) (h1 := HS t m) 2 (by rfl) ?_
    refine ev_getIv (v := ((k : Nat) : Int)) rfl rfl (hz) ?_
    refine ev_ic3 rfl (inI_of (by omega) (by omega)) (inI_of (by omega) (by omega)) (fun c37 => ?_) (fun c37 => absurd c37 (by omega))
    exact hE
  | succ c IH =>
    intro k m hk hz hn
    obtain ⟨m2, h1, h2, hK⟩ := IH (k + 1) (up (up m 193 (6 * n + k) (m 191 k)) 194 (6 * n + k) (m 192 k)) (by omega) (by rw [up_ne1 _ _ (by decide), up_ne1 _ _ (by decide)]; exact hz) (by rw [up_ne1 _ _ (by decide), up_ne1 _ _ (by decide)]; exact hn)
    refine ⟨m2, fun j hj hkj => ?_, fun b j hb => ?_, fun o h' hE => ?_⟩
    · by_cases c0 : j = k
      · subst c0; rw [h2 193 _ (by omega), h2 194 _ (by omega), up_eq, up_ne1 (b := 193) _ _ (by decide), up_eq]; exact ⟨rfl, rfl⟩
      · rw [(h1 j hj (by omega)).1, (h1 j hj (by omega)).2, up_ne1 (b := 191) _ _ (by decide), up_ne1 (b := 191) _ _ (by decide), up_ne1 (b := 192) _ _ (by decide), up_ne1 (b := 192) _ _ (by decide)]; exact ⟨rfl, rfl⟩
    · rw [h2 b j (by omega), up_ne _ _ (by omega), up_ne _ _ (by omega)]
    · refine ev_go (pc' := 34) (ls' := [some (vR (some 190)), some (vI ((k : Nat) : Int))]) (st' := [vR (some 190), vI ((k : Nat) : Int)]) (h1 := HS t m) 2 (by rfl) ?_
      refine ev_getIv (v := ((z : Nat) : Int)) rfl rfl (hz) ?_
      refine ev_ic3 rfl (inI_of (by omega) (by omega)) (inI_of (by omega) (by omega)) (fun c37 => absurd c37 (by omega)) (fun c37 => ?_)
      refine ev_go (pc' := 41) (ls' := [some (vR (some 190)), some (vI ((k : Nat) : Int))]) (st' := [vR (some 190)]) (h1 := HS t m) 1 (by rfl) ?_
      refine ev_getR rfl rfl (rfl : rf 190 6 = some 193) ?_
      refine ev_go (pc' := 47) (ls' := [some (vR (some 190)), some (vI ((k : Nat) : Int))]) (st' := [vR (some 190), vI 6, vR (some 193)]) (h1 := HS t m) 2 (by rfl) ?_
      refine ev_getIv (v := ((n : Nat) : Int)) rfl rfl (hn) ?_
      refine ev_go (pc' := 54) (ls' := [some (vR (some 190)), some (vI ((k : Nat) : Int))]) (st' := [vR (some 190), vI ((6 * ((n : Nat) : Int)) + ((k : Nat) : Int)), vR (some 193)]) (h1 := HS t m) 4 (by rfl) ?_
      refine ev_getR rfl rfl (rfl : rf 190 3 = some 191) ?_
      refine ev_go (pc' := 58) (ls' := [some (vR (some 190)), some (vI ((k : Nat) : Int))]) (st' := [vI ((k : Nat) : Int), vR (some 191), vI ((6 * ((n : Nat) : Int)) + ((k : Nat) : Int)), vR (some 193)]) (h1 := HS t m) 1 (by rfl) ?_
      refine ev_iald (k := k) rfl rfl rfl (by omega) ?_
      refine ev_iast (k := (6 * n + k)) rfl rfl (by omega) (by omega) ?_
      refine ev_go (pc' := 61) (ls' := [some (vR (some 190)), some (vI ((k : Nat) : Int))]) (st' := [vR (some 190)]) (h1 := HS t (up m 193 (6 * n + k) (m 191 k))) 1 (by rfl) ?_
      refine ev_getR rfl rfl (rfl : rf 190 7 = some 194) ?_
      refine ev_go (pc' := 67) (ls' := [some (vR (some 190)), some (vI ((k : Nat) : Int))]) (st' := [vR (some 190), vI 6, vR (some 194)]) (h1 := HS t (up m 193 (6 * n + k) (m 191 k))) 2 (by rfl) ?_
      refine ev_getIv (v := ((n : Nat) : Int)) rfl rfl ((up_ne1 _ _ (by decide)).trans (hn)) ?_
      refine ev_go (pc' := 74) (ls' := [some (vR (some 190)), some (vI ((k : Nat) : Int))]) (st' := [vR (some 190), vI ((6 * ((n : Nat) : Int)) + ((k : Nat) : Int)), vR (some 194)]) (h1 := HS t (up m 193 (6 * n + k) (m 191 k))) 4 (by rfl) ?_
      refine ev_getR rfl rfl (rfl : rf 190 4 = some 192) ?_
      refine ev_go (pc' := 78) (ls' := [some (vR (some 190)), some (vI ((k : Nat) : Int))]) (st' := [vI ((k : Nat) : Int), vR (some 192), vI ((6 * ((n : Nat) : Int)) + ((k : Nat) : Int)), vR (some 194)]) (h1 := HS t (up m 193 (6 * n + k) (m 191 k))) 1 (by rfl) ?_
      refine ev_ialdv (k := k) (v := (m 192 k)) rfl rfl rfl (by omega) (up_ne1 _ _ (by decide)) ?_
      refine ev_iast (k := (6 * n + k)) rfl rfl (by omega) (by omega) ?_
      refine ev_go (pc' := 32) (ls' := [some (vR (some 190)), some (vI ((k + 1 : Nat) : Int))]) (st' := []) (h1 := HS t (up (up m 193 (6 * n + k) (m 191 k)) 194 (6 * n + k) (m 192 k))) 2 (by rfl) ?_
      exact hK o h' hE
set_option maxRecDepth 10000 in
theorem m_add0 {L : Nat} {xs : Nat → Int32} {t : Bool × Nat × Nat} {n z : Nat} {m : mMM} (hn : m 190 10 = (n : Int)) (hn20 : n < 20) (hz : m 190 5 = (z : Int)) (hz6 : 0 < z ∧ z ≤ 6) : ∃ m1, Ev (PP L xs) 10 100 0 (entL 2 [vR (some 190)]) [] (HS t m) (.inl (some (vI (n : Int)))) (HS t (up (up (up (up m1 195 n (z : Int)) 196 n 1) 190 5 0) 190 10 ((n + 1 : Nat) : Int))) ∧ (∀ j, j < z → m1 193 (6 * n + j) = m 191 j ∧ m1 194 (6 * n + j) = m 192 j) ∧ (∀ b j, (b ≠ 193 ∧ b ≠ 194) ∨ j < 6 * n → m1 b j = (up m 190 0 0) b j) := by
  have hz1 : (up m 190 0 0) 190 5 = (z : Int) := by rw [up_ne2 _ _ (by decide)]; exact hz
  have hn1 : (up m 190 0 0) 190 10 = (n : Int) := by rw [up_ne2 _ _ (by decide)]; exact hn
  obtain ⟨m1, h1, h2, hK⟩ := ml_add (L := L) (xs := xs) (t := t) hn20 hz6.2 z 0 (up m 190 0 0) (by omega) hz1 hn1
  have hz2 : m1 190 5 = (z : Int) := by rw [h2 190 5 (by omega)]; exact hz1
  have hn2 : m1 190 10 = (n : Int) := by rw [h2 190 10 (by omega)]; exact hn1
  refine ⟨m1, ?_, fun j hj => ?_, fun b j hb => ?_⟩
  · refine ev_go (pc' := 2) (ls' := [some (vR (some 190)), none]) (st' := [vR (some 190), vR (some 190)]) (h1 := HS t m) 2 (by rfl) ?_
    refine ev_getIv (v := ((z : Nat) : Int)) rfl rfl (hz) ?_
    refine ev_if0 rfl (inI_of (by omega) (by omega)) (fun c5 => absurd c5 (by omega)) (fun c5 => ?_)
    refine ev_go (pc' := 9) (ls' := [some (vR (some 190)), none]) (st' := [vR (some 190), vR (some 190)]) (h1 := HS t m) 1 (by rfl) ?_
    refine ev_getIv (v := ((n : Nat) : Int)) rfl rfl (hn) ?_
    refine ev_go (pc' := 14) (ls' := [some (vR (some 190)), none]) (st' := [vI 20, vI ((n : Nat) : Int), vR (some 190)]) (h1 := HS t m) 1 (by rfl) ?_
    refine ev_ic1 rfl (inI_of (by omega) (by omega)) rfl (fun c14 => ?_) (fun c14 => absurd c14 (by omega))
    refine ev_go (pc' := 22) (ls' := [some (vR (some 190)), none]) (st' := [vI 0, vR (some 190)]) (h1 := HS t m) 1 (by rfl) ?_
    refine ev_call rfl rfl (Nat.le_of_ble_eq_true rfl) (m_holds (x := 0) rfl) ⟨Nat.le_refl _, Nat.le_refl _⟩ ?_
    show Ev (PP L xs) _ 100 25 [some (vR (some 190)), none] [vI 1] (HS t (up m 190 0 0)) _ _
    refine ev_if1 rfl rfl (fun c25 => ?_) (fun c25 => absurd c25 (by decide))
    refine ev_go (pc' := 32) (ls' := [some (vR (some 190)), some (vI 0)]) (st' := []) (h1 := HS t (up m 190 0 0)) 2 (by rfl) ?_
    refine hK _ _ ?_
    refine ev_go (pc' := 87) (ls' := [some (vR (some 190)), some (vI ((z : Nat) : Int))]) (st' := [vR (some 190)]) (h1 := HS t m1) 1 (by rfl) ?_
    refine ev_getR rfl rfl (rfl : rf 190 8 = some 195) ?_
    refine ev_go (pc' := 91) (ls' := [some (vR (some 190)), some (vI ((z : Nat) : Int))]) (st' := [vR (some 190), vR (some 195)]) (h1 := HS t m1) 1 (by rfl) ?_
    refine ev_getIv (v := ((n : Nat) : Int)) rfl rfl (hn2) ?_
    refine ev_go (pc' := 95) (ls' := [some (vR (some 190)), some (vI ((z : Nat) : Int))]) (st' := [vR (some 190), vI ((n : Nat) : Int), vR (some 195)]) (h1 := HS t m1) 1 (by rfl) ?_
    refine ev_getIv (v := ((z : Nat) : Int)) rfl rfl (hz2) ?_
    refine ev_iast (k := n) rfl rfl rfl (by omega) ?_
    refine ev_go (pc' := 100) (ls' := [some (vR (some 190)), some (vI ((z : Nat) : Int))]) (st' := [vR (some 190)]) (h1 := HS t (up m1 195 n ((z : Nat) : Int))) 1 (by rfl) ?_
    refine ev_getR rfl rfl (rfl : rf 190 9 = some 196) ?_
    refine ev_go (pc' := 104) (ls' := [some (vR (some 190)), some (vI ((z : Nat) : Int))]) (st' := [vR (some 190), vR (some 196)]) (h1 := HS t (up m1 195 n ((z : Nat) : Int))) 1 (by rfl) ?_
    refine ev_getIv (v := ((n : Nat) : Int)) rfl rfl ((up_ne1 _ _ (by decide)).trans (hn2)) ?_
    refine ev_go (pc' := 108) (ls' := [some (vR (some 190)), some (vI ((z : Nat) : Int))]) (st' := [vI 1, vI ((n : Nat) : Int), vR (some 196)]) (h1 := HS t (up m1 195 n ((z : Nat) : Int))) 1 (by rfl) ?_
    refine ev_zast (k := n) rfl rfl rfl (by omega) (by first | exact Or.inl rfl | exact Or.inr rfl | omega) ?_
    refine ev_go (pc' := 111) (ls' := [some (vR (some 190)), some (vI ((z : Nat) : Int))]) (st' := [vI 0, vR (some 190)]) (h1 := HS t (up (up m1 195 n ((z : Nat) : Int)) 196 n 1)) 2 (by rfl) ?_
    refine ev_putI rfl rfl ?_
    refine ev_go (pc' := 116) (ls' := [some (vR (some 190)), some (vI ((z : Nat) : Int))]) (st' := [vR (some 190), vR (some 190)]) (h1 := HS t (up (up (up m1 195 n ((z : Nat) : Int)) 196 n 1) 190 5 0)) 2 (by rfl) ?_
    refine ev_getIv (v := ((n : Nat) : Int)) rfl rfl ((up_ne2 _ _ (by decide)).trans ((up_ne1 _ _ (by decide)).trans ((up_ne1 _ _ (by decide)).trans (hn2)))) ?_
    refine ev_go (pc' := 121) (ls' := [some (vR (some 190)), some (vI ((z : Nat) : Int))]) (st' := [vI ((n + 1 : Nat) : Int), vR (some 190)]) (h1 := HS t (up (up (up m1 195 n ((z : Nat) : Int)) 196 n 1) 190 5 0)) 2 (by rfl) ?_
    refine ev_putI rfl rfl ?_
    refine ev_go (pc' := 125) (ls' := [some (vR (some 190)), some (vI ((z : Nat) : Int))]) (st' := [vR (some 190)]) (h1 := HS t (up (up (up (up m1 195 n ((z : Nat) : Int)) 196 n 1) 190 5 0) 190 10 ((n + 1 : Nat) : Int))) 1 (by rfl) ?_
    refine ev_getIv (v := ((n + 1 : Nat) : Int)) rfl rfl (up_eq _ _ _ _) ?_
    refine ev_go (pc' := 130) (ls' := [some (vR (some 190)), some (vI ((z : Nat) : Int))]) (st' := [vI (((n + 1 : Nat) : Int) - 1)]) (h1 := HS t (up (up (up (up m1 195 n ((z : Nat) : Int)) 196 n 1) 190 5 0) 190 10 ((n + 1 : Nat) : Int))) 2 (by rfl) ?_
    exact ev_retE rfl rfl (by rw [show (((n + 1 : Nat) : Int) - 1) = ((n : Nat) : Int) by omega]) rfl
  · rw [(h1 j hj (Nat.zero_le _)).1, (h1 j hj (Nat.zero_le _)).2, up_ne1 (b := 191) _ _ (by decide), up_ne1 (b := 192) _ _ (by decide)]; exact ⟨rfl, rfl⟩
  · exact h2 b j (by omega)
set_option maxRecDepth 10000 in
theorem m_textX {L : Nat} {xs : Nat → Int32} {t : Bool × Nat × Nat} {m : mMM} {n : Nat} {x b : Int} (hn : m 190 10 = (n : Int)) (hn20 : n ≤ 20) (hI : inI x = true) (h : x < 0 ∨ (n : Int) ≤ x) : Ev (PP L xs) 10 101 0 (entL 4 [vR (some 190), vI x, vI b]) [] (HS t m) (.inl (some (vI 0))) (HS t (up m 190 0 1)) := by
  refine ev_go (pc' := 4) (ls' := [some (vR (some 190)), some (vI x), some (vI b), none]) (st' := [vR (some 190), vI 0, vI x, vR (some 190)]) (h1 := HS t m) 4 (by rfl) ?_
  refine ev_getIv (v := ((n : Nat) : Int)) rfl rfl (hn) ?_
  refine ev_go (pc' := 9) (ls' := [some (vR (some 190)), some (vI x), some (vI b), none]) (st' := [vI (((n : Nat) : Int) - 1), vI 0, vI x, vR (some 190)]) (h1 := HS t m) 2 (by rfl) ?_
  have hin := m_isIn (L := L) (xs := xs) (t := t) (m := m) (d := 9) (x := x) (a := 0) (b := (((n : Nat) : Int) - 1)) hI rfl (inI_of (by omega) (by omega))
  rw [if_neg (by omega)] at hin
  refine ev_call rfl rfl (Nat.le_of_ble_eq_true rfl) hin ⟨Nat.le_refl _, Nat.le_refl _⟩ ?_
  show Ev (PP L xs) _ 101 12 [some (vR (some 190)), some (vI x), some (vI b), none] [vI 0, vR (some 190)] (HS t m) _ _
  refine ev_if0 rfl rfl (fun c12 => ?_) (fun c12 => absurd c12 (by decide))
  refine ev_go (pc' := 20) (ls' := [some (vR (some 190)), some (vI x), some (vI b), none]) (st' := [vI 1, vR (some 190)]) (h1 := HS t m) 1 (by rfl) ?_
  refine ev_call rfl rfl (Nat.le_of_ble_eq_true rfl) (m_holds (x := 1) rfl) ⟨Nat.le_refl _, Nat.le_refl _⟩ ?_
  show Ev (PP L xs) _ 101 23 [some (vR (some 190)), some (vI x), some (vI b), none] [vI 0] (HS t (up m 190 0 1)) _ _
  refine ev_if1 rfl rfl (fun c23 => absurd c23 (by decide)) (fun c23 => ?_)
  refine ev_go (pc' := 27) (ls' := [some (vR (some 190)), some (vI x), some (vI b), none]) (st' := [vI 0]) (h1 := HS t (up m 190 0 1)) 1 (by rfl) ?_
  exact ev_retE rfl rfl (by first | rfl | (simp [*]; done) | (split <;> first | rfl | (exfalso; omega))) (by first | rfl | (simp [*]; done) | (split <;> first | rfl | (exfalso; omega)))
set_option maxRecDepth 10000 in
theorem m_text0 {L : Nat} {xs : Nat → Int32} {t : Bool × Nat × Nat} {m : mMM} {n i : Nat} {e : Int} (hn : m 190 10 = (n : Int)) (hn20 : n ≤ 20) (hi : i < n) (he : m 196 i = e) (he2 : e = 0 ∨ e = 1) : Ev (PP L xs) 10 101 0 (entL 4 [vR (some 190), vI ((i : Nat) : Int), vI 0]) [] (HS t m) (.inl (some (vI e))) (HS t (up (up m 190 0 0) 196 i 0)) := by
  refine ev_go (pc' := 4) (ls' := [some (vR (some 190)), some (vI ((i : Nat) : Int)), some (vI 0), none]) (st' := [vR (some 190), vI 0, vI ((i : Nat) : Int), vR (some 190)]) (h1 := HS t m) 4 (by rfl) ?_
  refine ev_getIv (v := ((n : Nat) : Int)) rfl rfl (hn) ?_
  refine ev_go (pc' := 9) (ls' := [some (vR (some 190)), some (vI ((i : Nat) : Int)), some (vI 0), none]) (st' := [vI (((n : Nat) : Int) - 1), vI 0, vI ((i : Nat) : Int), vR (some 190)]) (h1 := HS t m) 2 (by rfl) ?_
  have hin := m_isIn (L := L) (xs := xs) (t := t) (m := m) (d := 9) (x := ((i : Nat) : Int)) (a := 0) (b := (((n : Nat) : Int) - 1)) (inI_of (by omega) (by omega)) rfl (inI_of (by omega) (by omega))
  rw [if_pos (by omega)] at hin
  refine ev_call rfl rfl (Nat.le_of_ble_eq_true rfl) hin ⟨Nat.le_refl _, Nat.le_refl _⟩ ?_
  show Ev (PP L xs) _ 101 12 [some (vR (some 190)), some (vI ((i : Nat) : Int)), some (vI 0), none] [vI 1, vR (some 190)] (HS t m) _ _
  refine ev_if0 rfl rfl (fun c12 => absurd c12 (by decide)) (fun c12 => ?_)
  refine ev_go (pc' := 20) (ls' := [some (vR (some 190)), some (vI ((i : Nat) : Int)), some (vI 0), none]) (st' := [vI 0, vR (some 190)]) (h1 := HS t m) 2 (by rfl) ?_
  refine ev_call rfl rfl (Nat.le_of_ble_eq_true rfl) (m_holds (x := 0) rfl) ⟨Nat.le_refl _, Nat.le_refl _⟩ ?_
  show Ev (PP L xs) _ 101 23 [some (vR (some 190)), some (vI ((i : Nat) : Int)), some (vI 0), none] [vI 1] (HS t (up m 190 0 0)) _ _
  refine ev_if1 rfl rfl (fun c23 => ?_) (fun c23 => absurd c23 (by decide))
  refine ev_go (pc' := 29) (ls' := [some (vR (some 190)), some (vI ((i : Nat) : Int)), some (vI 0), none]) (st' := [vR (some 190)]) (h1 := HS t (up m 190 0 0)) 1 (by rfl) ?_
  refine ev_getR rfl rfl (rfl : rf 190 9 = some 196) ?_
  refine ev_go (pc' := 33) (ls' := [some (vR (some 190)), some (vI ((i : Nat) : Int)), some (vI 0), none]) (st' := [vI ((i : Nat) : Int), vR (some 196)]) (h1 := HS t (up m 190 0 0)) 1 (by rfl) ?_
  refine ev_zaldv (k := i) (v := e) rfl rfl rfl (by omega) ((up_ne1 _ _ (by decide)).trans (he)) ?_
  refine ev_go (pc' := 36) (ls' := [some (vR (some 190)), some (vI ((i : Nat) : Int)), some (vI 0), some (vI e)]) (st' := [vR (some 190)]) (h1 := HS t (up m 190 0 0)) 2 (by rfl) ?_
  refine ev_getR rfl rfl (rfl : rf 190 9 = some 196) ?_
  refine ev_go (pc' := 41) (ls' := [some (vR (some 190)), some (vI ((i : Nat) : Int)), some (vI 0), some (vI e)]) (st' := [vI 0, vI ((i : Nat) : Int), vR (some 196)]) (h1 := HS t (up m 190 0 0)) 2 (by rfl) ?_
  refine ev_zast (k := i) rfl rfl rfl (by omega) (by first | exact Or.inl rfl | exact Or.inr rfl | omega) ?_
  refine ev_go (pc' := 43) (ls' := [some (vR (some 190)), some (vI ((i : Nat) : Int)), some (vI 0), some (vI e)]) (st' := [vI e]) (h1 := HS t (up (up m 190 0 0) 196 i 0)) 1 (by rfl) ?_
  exact ev_zret rfl he2 rfl
set_option maxRecDepth 10000 in
theorem m_text1 {L : Nat} {xs : Nat → Int32} {t : Bool × Nat × Nat} {m : mMM} {n i : Nat} {e : Int} (hn : m 190 10 = (n : Int)) (hn20 : n ≤ 20) (hi : i < n) (he : m 196 i = e) (he2 : e = 0 ∨ e = 1) : Ev (PP L xs) 10 101 0 (entL 4 [vR (some 190), vI ((i : Nat) : Int), vI 1]) [] (HS t m) (.inl (some (vI e))) (HS t (up (up m 190 0 0) 196 i 1)) := by
  refine ev_go (pc' := 4) (ls' := [some (vR (some 190)), some (vI ((i : Nat) : Int)), some (vI 1), none]) (st' := [vR (some 190), vI 0, vI ((i : Nat) : Int), vR (some 190)]) (h1 := HS t m) 4 (by rfl) ?_
  refine ev_getIv (v := ((n : Nat) : Int)) rfl rfl (hn) ?_
  refine ev_go (pc' := 9) (ls' := [some (vR (some 190)), some (vI ((i : Nat) : Int)), some (vI 1), none]) (st' := [vI (((n : Nat) : Int) - 1), vI 0, vI ((i : Nat) : Int), vR (some 190)]) (h1 := HS t m) 2 (by rfl) ?_
  have hin := m_isIn (L := L) (xs := xs) (t := t) (m := m) (d := 9) (x := ((i : Nat) : Int)) (a := 0) (b := (((n : Nat) : Int) - 1)) (inI_of (by omega) (by omega)) rfl (inI_of (by omega) (by omega))
  rw [if_pos (by omega)] at hin
  refine ev_call rfl rfl (Nat.le_of_ble_eq_true rfl) hin ⟨Nat.le_refl _, Nat.le_refl _⟩ ?_
  show Ev (PP L xs) _ 101 12 [some (vR (some 190)), some (vI ((i : Nat) : Int)), some (vI 1), none] [vI 1, vR (some 190)] (HS t m) _ _
  refine ev_if0 rfl rfl (fun c12 => absurd c12 (by decide)) (fun c12 => ?_)
  refine ev_go (pc' := 20) (ls' := [some (vR (some 190)), some (vI ((i : Nat) : Int)), some (vI 1), none]) (st' := [vI 0, vR (some 190)]) (h1 := HS t m) 2 (by rfl) ?_
  refine ev_call rfl rfl (Nat.le_of_ble_eq_true rfl) (m_holds (x := 0) rfl) ⟨Nat.le_refl _, Nat.le_refl _⟩ ?_
  show Ev (PP L xs) _ 101 23 [some (vR (some 190)), some (vI ((i : Nat) : Int)), some (vI 1), none] [vI 1] (HS t (up m 190 0 0)) _ _
  refine ev_if1 rfl rfl (fun c23 => ?_) (fun c23 => absurd c23 (by decide))
  refine ev_go (pc' := 29) (ls' := [some (vR (some 190)), some (vI ((i : Nat) : Int)), some (vI 1), none]) (st' := [vR (some 190)]) (h1 := HS t (up m 190 0 0)) 1 (by rfl) ?_
  refine ev_getR rfl rfl (rfl : rf 190 9 = some 196) ?_
  refine ev_go (pc' := 33) (ls' := [some (vR (some 190)), some (vI ((i : Nat) : Int)), some (vI 1), none]) (st' := [vI ((i : Nat) : Int), vR (some 196)]) (h1 := HS t (up m 190 0 0)) 1 (by rfl) ?_
  refine ev_zaldv (k := i) (v := e) rfl rfl rfl (by omega) ((up_ne1 _ _ (by decide)).trans (he)) ?_
  refine ev_go (pc' := 36) (ls' := [some (vR (some 190)), some (vI ((i : Nat) : Int)), some (vI 1), some (vI e)]) (st' := [vR (some 190)]) (h1 := HS t (up m 190 0 0)) 2 (by rfl) ?_
  refine ev_getR rfl rfl (rfl : rf 190 9 = some 196) ?_
  refine ev_go (pc' := 41) (ls' := [some (vR (some 190)), some (vI ((i : Nat) : Int)), some (vI 1), some (vI e)]) (st' := [vI 1, vI ((i : Nat) : Int), vR (some 196)]) (h1 := HS t (up m 190 0 0)) 2 (by rfl) ?_
  refine ev_zast (k := i) rfl rfl rfl (by omega) (by first | exact Or.inl rfl | exact Or.inr rfl | omega) ?_
  refine ev_go (pc' := 43) (ls' := [some (vR (some 190)), some (vI ((i : Nat) : Int)), some (vI 1), some (vI e)]) (st' := [vI e]) (h1 := HS t (up (up m 190 0 0) 196 i 1)) 1 (by rfl) ?_
  exact ev_zret rfl he2 rfl
set_option maxRecDepth 10000 in
theorem m_wordX1 {L : Nat} {xs : Nat → Int32} {t : Bool × Nat × Nat} {m : mMM} (hk : m 190 2 = 0) : Ev (PP L xs) 10 102 0 (entL 1 [vR (some 190)]) [] (HS t m) (.inl (some (vI 0))) (HS t (up m 190 0 1)) := by
  refine ev_go (pc' := 2) (ls' := [some (vR (some 190))]) (st' := [vR (some 190), vR (some 190)]) (h1 := HS t m) 2 (by rfl) ?_
  refine ev_getIv (v := 0) rfl rfl (hk) ?_
  refine ev_if0 rfl rfl (fun c5 => ?_) (fun c5 => absurd c5 (by decide))
  refine ev_go (pc' := 21) (ls' := [some (vR (some 190))]) (st' := [vI 1, vR (some 190)]) (h1 := HS t m) 2 (by rfl) ?_
  refine ev_call rfl rfl (Nat.le_of_ble_eq_true rfl) (m_holds (x := 1) rfl) ⟨Nat.le_refl _, Nat.le_refl _⟩ ?_
  show Ev (PP L xs) _ 102 24 [some (vR (some 190))] [vI 0] (HS t (up m 190 0 1)) _ _
  refine ev_if1 rfl rfl (fun c24 => absurd c24 (by decide)) (fun c24 => ?_)
  refine ev_go (pc' := 28) (ls' := [some (vR (some 190))]) (st' := [vI 0]) (h1 := HS t (up m 190 0 1)) 1 (by rfl) ?_
  exact ev_retE rfl rfl (by first | rfl | (simp [*]; done) | (split <;> first | rfl | (exfalso; omega))) (by first | rfl | (simp [*]; done) | (split <;> first | rfl | (exfalso; omega)))
set_option maxRecDepth 10000 in
theorem m_wordX2 {L : Nat} {xs : Nat → Int32} {t : Bool × Nat × Nat} {m : mMM} {k : Nat} (hk : m 190 2 = (k : Int)) (hk0 : 0 < k ∧ k ≤ 6) (hn : m 190 13 = 5) : Ev (PP L xs) 10 102 0 (entL 1 [vR (some 190)]) [] (HS t m) (.inl (some (vI 0))) (HS t (up m 190 0 1)) := by
  refine ev_go (pc' := 2) (ls' := [some (vR (some 190))]) (st' := [vR (some 190), vR (some 190)]) (h1 := HS t m) 2 (by rfl) ?_
  refine ev_getIv (v := ((k : Nat) : Int)) rfl rfl (hk) ?_
  refine ev_if0 rfl (inI_of (by omega) (by omega)) (fun c5 => absurd c5 (by omega)) (fun c5 => ?_)
  refine ev_go (pc' := 9) (ls' := [some (vR (some 190))]) (st' := [vR (some 190), vR (some 190)]) (h1 := HS t m) 1 (by rfl) ?_
  refine ev_getIv (v := 5) rfl rfl (hn) ?_
  refine ev_go (pc' := 13) (ls' := [some (vR (some 190))]) (st' := [vI 5, vI 5, vR (some 190)]) (h1 := HS t m) 1 (by rfl) ?_
  refine ev_ic1 rfl rfl rfl (fun c13 => absurd c13 (by decide)) (fun c13 => ?_)
  refine ev_go (pc' := 21) (ls' := [some (vR (some 190))]) (st' := [vI 1, vR (some 190)]) (h1 := HS t m) 2 (by rfl) ?_
  refine ev_call rfl rfl (Nat.le_of_ble_eq_true rfl) (m_holds (x := 1) rfl) ⟨Nat.le_refl _, Nat.le_refl _⟩ ?_
  show Ev (PP L xs) _ 102 24 [some (vR (some 190))] [vI 0] (HS t (up m 190 0 1)) _ _
  refine ev_if1 rfl rfl (fun c24 => absurd c24 (by decide)) (fun c24 => ?_)
  refine ev_go (pc' := 28) (ls' := [some (vR (some 190))]) (st' := [vI 0]) (h1 := HS t (up m 190 0 1)) 1 (by rfl) ?_
  exact ev_retE rfl rfl (by first | rfl | (simp [*]; done) | (split <;> first | rfl | (exfalso; omega))) (by first | rfl | (simp [*]; done) | (split <;> first | rfl | (exfalso; omega)))
set_option maxRecDepth 10000 in
theorem m_word0 {L : Nat} {xs : Nat → Int32} {t : Bool × Nat × Nat} {m : mMM} {k n : Nat} (hk : m 190 2 = (k : Int)) (hk0 : 0 < k ∧ k ≤ 6) (hn : m 190 13 = (n : Int)) (hn5 : n < 5) : Ev (PP L xs) 10 102 0 (entL 1 [vR (some 190)]) [] (HS t m) (.inl (some (vI ((n + 1 : Nat) : Int)))) (HS t (up (up (up (up (up (up m 190 0 0) 190 1 0) 190 2 0) 197 n (m 190 1)) 198 n (-1)) 190 13 ((n + 1 : Nat) : Int))) := by
  refine ev_go (pc' := 2) (ls' := [some (vR (some 190))]) (st' := [vR (some 190), vR (some 190)]) (h1 := HS t m) 2 (by rfl) ?_
  refine ev_getIv (v := ((k : Nat) : Int)) rfl rfl (hk) ?_
  refine ev_if0 rfl (inI_of (by omega) (by omega)) (fun c5 => absurd c5 (by omega)) (fun c5 => ?_)
  refine ev_go (pc' := 9) (ls' := [some (vR (some 190))]) (st' := [vR (some 190), vR (some 190)]) (h1 := HS t m) 1 (by rfl) ?_
  refine ev_getIv (v := ((n : Nat) : Int)) rfl rfl (hn) ?_
  refine ev_go (pc' := 13) (ls' := [some (vR (some 190))]) (st' := [vI 5, vI ((n : Nat) : Int), vR (some 190)]) (h1 := HS t m) 1 (by rfl) ?_
  refine ev_ic1 rfl (inI_of (by omega) (by omega)) rfl (fun c13 => ?_) (fun c13 => absurd c13 (by omega))
  refine ev_go (pc' := 21) (ls' := [some (vR (some 190))]) (st' := [vI 0, vR (some 190)]) (h1 := HS t m) 1 (by rfl) ?_
  refine ev_call rfl rfl (Nat.le_of_ble_eq_true rfl) (m_holds (x := 0) rfl) ⟨Nat.le_refl _, Nat.le_refl _⟩ ?_
  show Ev (PP L xs) _ 102 24 [some (vR (some 190))] [vI 1] (HS t (up m 190 0 0)) _ _
  refine ev_if1 rfl rfl (fun c24 => ?_) (fun c24 => absurd c24 (by decide))
  refine ev_go (pc' := 30) (ls' := [some (vR (some 190))]) (st' := [vR (some 190)]) (h1 := HS t (up m 190 0 0)) 1 (by rfl) ?_
  refine ev_getR rfl rfl (rfl : rf 190 11 = some 197) ?_
  refine ev_go (pc' := 34) (ls' := [some (vR (some 190))]) (st' := [vR (some 190), vR (some 197)]) (h1 := HS t (up m 190 0 0)) 1 (by rfl) ?_
  refine ev_getIv (v := ((n : Nat) : Int)) rfl rfl ((up_ne2 _ _ (by decide)).trans (hn)) ?_
  refine ev_go (pc' := 38) (ls' := [some (vR (some 190))]) (st' := [vR (some 190), vI ((n : Nat) : Int), vR (some 197)]) (h1 := HS t (up m 190 0 0)) 1 (by rfl) ?_
  refine ev_call rfl rfl (Nat.le_of_ble_eq_true rfl) m_takes ⟨Nat.le_refl _, Nat.le_refl _⟩ ?_
  show Ev (PP L xs) _ 102 41 [some (vR (some 190))] [vI (m 190 1), vI ((n : Nat) : Int), vR (some 197)] (HS t (up (up (up m 190 0 0) 190 1 0) 190 2 0)) _ _
  refine ev_iast (k := n) rfl rfl rfl (by omega) ?_
  refine ev_go (pc' := 43) (ls' := [some (vR (some 190))]) (st' := [vR (some 190)]) (h1 := HS t (up (up (up (up m 190 0 0) 190 1 0) 190 2 0) 197 n (m 190 1))) 1 (by rfl) ?_
  refine ev_getR rfl rfl (rfl : rf 190 12 = some 198) ?_
  refine ev_go (pc' := 47) (ls' := [some (vR (some 190))]) (st' := [vR (some 190), vR (some 198)]) (h1 := HS t (up (up (up (up m 190 0 0) 190 1 0) 190 2 0) 197 n (m 190 1))) 1 (by rfl) ?_
  refine ev_getIv (v := ((n : Nat) : Int)) rfl rfl ((up_ne1 _ _ (by decide)).trans ((up_ne2 _ _ (by decide)).trans ((up_ne2 _ _ (by decide)).trans ((up_ne2 _ _ (by decide)).trans (hn))))) ?_
  refine ev_go (pc' := 51) (ls' := [some (vR (some 190))]) (st' := [vI (-1), vI ((n : Nat) : Int), vR (some 198)]) (h1 := HS t (up (up (up (up m 190 0 0) 190 1 0) 190 2 0) 197 n (m 190 1))) 1 (by rfl) ?_
  refine ev_iast (k := n) rfl rfl rfl (by omega) ?_
  refine ev_go (pc' := 54) (ls' := [some (vR (some 190))]) (st' := [vR (some 190), vR (some 190)]) (h1 := HS t (up (up (up (up (up m 190 0 0) 190 1 0) 190 2 0) 197 n (m 190 1)) 198 n (-1))) 2 (by rfl) ?_
  refine ev_getIv (v := ((n : Nat) : Int)) rfl rfl ((up_ne1 _ _ (by decide)).trans ((up_ne1 _ _ (by decide)).trans ((up_ne2 _ _ (by decide)).trans ((up_ne2 _ _ (by decide)).trans ((up_ne2 _ _ (by decide)).trans (hn)))))) ?_
  refine ev_go (pc' := 59) (ls' := [some (vR (some 190))]) (st' := [vI ((n + 1 : Nat) : Int), vR (some 190)]) (h1 := HS t (up (up (up (up (up m 190 0 0) 190 1 0) 190 2 0) 197 n (m 190 1)) 198 n (-1))) 2 (by rfl) ?_
  refine ev_putI rfl rfl ?_
  refine ev_go (pc' := 63) (ls' := [some (vR (some 190))]) (st' := [vR (some 190)]) (h1 := HS t (up (up (up (up (up (up m 190 0 0) 190 1 0) 190 2 0) 197 n (m 190 1)) 198 n (-1)) 190 13 ((n + 1 : Nat) : Int))) 1 (by rfl) ?_
  refine ev_getIv (v := ((n + 1 : Nat) : Int)) rfl rfl (up_eq _ _ _ _) ?_
  exact ev_retE rfl rfl (by first | rfl | (simp [*]; done) | (split <;> first | rfl | (exfalso; omega))) (by first | rfl | (simp [*]; done) | (split <;> first | rfl | (exfalso; omega)))
set_option maxRecDepth 10000 in
theorem m_clear {L : Nat} {xs : Nat → Int32} {t : Bool × Nat × Nat} {m : mMM}  : Ev (PP L xs) 10 103 0 (entL 2 [vR (some 190)]) [] (HS t m) (.inl (some (vI (m 190 13)))) (HS t (up (up m 190 0 0) 190 13 0)) := by
  refine ev_go (pc' := 2) (ls' := [some (vR (some 190)), none]) (st' := [vI 0, vR (some 190)]) (h1 := HS t m) 2 (by rfl) ?_
  refine ev_putI rfl rfl ?_
  refine ev_go (pc' := 6) (ls' := [some (vR (some 190)), none]) (st' := [vR (some 190)]) (h1 := HS t (up m 190 0 0)) 1 (by rfl) ?_
  refine ev_getIv (v := (m 190 13)) rfl rfl (up_ne2 _ _ (by decide)) ?_
  refine ev_go (pc' := 12) (ls' := [some (vR (some 190)), some (vI (m 190 13))]) (st' := [vI 0, vR (some 190)]) (h1 := HS t (up m 190 0 0)) 3 (by rfl) ?_
  refine ev_putI rfl rfl ?_
  refine ev_go (pc' := 16) (ls' := [some (vR (some 190)), some (vI (m 190 13))]) (st' := [vI (m 190 13)]) (h1 := HS t (up (up m 190 0 0) 190 13 0)) 1 (by rfl) ?_
  exact ev_retE rfl rfl (by first | rfl | (simp [*]; done) | (split <;> first | rfl | (exfalso; omega))) (by first | rfl | (simp [*]; done) | (split <;> first | rfl | (exfalso; omega)))
set_option maxRecDepth 10000 in
theorem m_lockX1 {L : Nat} {xs : Nat → Int32} {t : Bool × Nat × Nat} {m : mMM} {n : Nat} {x y : Int} (hn : m 190 13 = (n : Int)) (hn5 : n ≤ 5) (hI : inI x = true) (h : x < 0 ∨ (n : Int) ≤ x) : Ev (PP L xs) 10 104 0 (entL 4 [vR (some 190), vI x, vI y]) [] (HS t m) (.inl (some (vI 0))) (HS t (up m 190 0 1)) := by
  refine ev_go (pc' := 3) (ls' := [some (vR (some 190)), some (vI x), some (vI y), none]) (st' := [vI x, vR (some 190), vR (some 190)]) (h1 := HS t m) 3 (by rfl) ?_
  refine ev_call rfl rfl (Nat.le_of_ble_eq_true rfl) (m_isPlace0 hn hn5 hI h) ⟨Nat.le_refl _, Nat.le_refl _⟩ ?_
  show Ev (PP L xs) _ 104 6 [some (vR (some 190)), some (vI x), some (vI y), none] [vI 0, vR (some 190)] (HS t m) _ _
  refine ev_if0 rfl rfl (fun c6 => ?_) (fun c6 => absurd c6 (by decide))
  refine ev_go (pc' := 23) (ls' := [some (vR (some 190)), some (vI x), some (vI y), none]) (st' := [vI 1, vR (some 190)]) (h1 := HS t m) 1 (by rfl) ?_
  refine ev_call rfl rfl (Nat.le_of_ble_eq_true rfl) (m_holds (x := 1) rfl) ⟨Nat.le_refl _, Nat.le_refl _⟩ ?_
  show Ev (PP L xs) _ 104 26 [some (vR (some 190)), some (vI x), some (vI y), none] [vI 0] (HS t (up m 190 0 1)) _ _
  refine ev_if1 rfl rfl (fun c26 => absurd c26 (by decide)) (fun c26 => ?_)
  refine ev_go (pc' := 30) (ls' := [some (vR (some 190)), some (vI x), some (vI y), none]) (st' := [vI 0]) (h1 := HS t (up m 190 0 1)) 1 (by rfl) ?_
  exact ev_retE rfl rfl (by first | rfl | (simp [*]; done) | (split <;> first | rfl | (exfalso; omega))) (by first | rfl | (simp [*]; done) | (split <;> first | rfl | (exfalso; omega)))
set_option maxRecDepth 10000 in
theorem m_lockX2 {L : Nat} {xs : Nat → Int32} {t : Bool × Nat × Nat} {m : mMM} {n p : Nat} {y : Int} (hn : m 190 13 = (n : Int)) (hn5 : n ≤ 5) (hp : p < n) (hI : inI y = true) (h : y < -1 ∨ 5 ≤ y) : Ev (PP L xs) 10 104 0 (entL 4 [vR (some 190), vI ((p : Nat) : Int), vI y]) [] (HS t m) (.inl (some (vI 0))) (HS t (up m 190 0 1)) := by
  refine ev_go (pc' := 3) (ls' := [some (vR (some 190)), some (vI ((p : Nat) : Int)), some (vI y), none]) (st' := [vI ((p : Nat) : Int), vR (some 190), vR (some 190)]) (h1 := HS t m) 3 (by rfl) ?_
  refine ev_call rfl rfl (Nat.le_of_ble_eq_true rfl) (m_isPlace1 hn hn5 hp) ⟨Nat.le_refl _, Nat.le_refl _⟩ ?_
  show Ev (PP L xs) _ 104 6 [some (vR (some 190)), some (vI ((p : Nat) : Int)), some (vI y), none] [vI 1, vR (some 190)] (HS t m) _ _
  refine ev_if0 rfl rfl (fun c6 => absurd c6 (by decide)) (fun c6 => ?_)
  refine ev_go (pc' := 12) (ls' := [some (vR (some 190)), some (vI ((p : Nat) : Int)), some (vI y), none]) (st' := [vI 4, vI (-1), vI y, vR (some 190)]) (h1 := HS t m) 3 (by rfl) ?_
  have hin := m_isIn (L := L) (xs := xs) (t := t) (m := m) (d := 9) (x := y) (a := (-1)) (b := 4) hI rfl rfl
  rw [if_neg (by omega)] at hin
  refine ev_call rfl rfl (Nat.le_of_ble_eq_true rfl) hin ⟨Nat.le_refl _, Nat.le_refl _⟩ ?_
  show Ev (PP L xs) _ 104 15 [some (vR (some 190)), some (vI ((p : Nat) : Int)), some (vI y), none] [vI 0, vR (some 190)] (HS t m) _ _
  refine ev_if0 rfl rfl (fun c15 => ?_) (fun c15 => absurd c15 (by decide))
  refine ev_go (pc' := 23) (ls' := [some (vR (some 190)), some (vI ((p : Nat) : Int)), some (vI y), none]) (st' := [vI 1, vR (some 190)]) (h1 := HS t m) 1 (by rfl) ?_
  refine ev_call rfl rfl (Nat.le_of_ble_eq_true rfl) (m_holds (x := 1) rfl) ⟨Nat.le_refl _, Nat.le_refl _⟩ ?_
  show Ev (PP L xs) _ 104 26 [some (vR (some 190)), some (vI ((p : Nat) : Int)), some (vI y), none] [vI 0] (HS t (up m 190 0 1)) _ _
  refine ev_if1 rfl rfl (fun c26 => absurd c26 (by decide)) (fun c26 => ?_)
  refine ev_go (pc' := 30) (ls' := [some (vR (some 190)), some (vI ((p : Nat) : Int)), some (vI y), none]) (st' := [vI 0]) (h1 := HS t (up m 190 0 1)) 1 (by rfl) ?_
  exact ev_retE rfl rfl (by first | rfl | (simp [*]; done) | (split <;> first | rfl | (exfalso; omega))) (by first | rfl | (simp [*]; done) | (split <;> first | rfl | (exfalso; omega)))
set_option maxRecDepth 10000 in
theorem m_lock0 {L : Nat} {xs : Nat → Int32} {t : Bool × Nat × Nat} {m : mMM} {n p : Nat} {y : Int} (hn : m 190 13 = (n : Int)) (hn5 : n ≤ 5) (hp : p < n) (h : -1 ≤ y ∧ y < 5) : Ev (PP L xs) 10 104 0 (entL 4 [vR (some 190), vI ((p : Nat) : Int), vI y]) [] (HS t m) (.inl (some (vI (m 198 p)))) (HS t (up (up m 190 0 0) 198 p y)) := by
  refine ev_go (pc' := 3) (ls' := [some (vR (some 190)), some (vI ((p : Nat) : Int)), some (vI y), none]) (st' := [vI ((p : Nat) : Int), vR (some 190), vR (some 190)]) (h1 := HS t m) 3 (by rfl) ?_
  refine ev_call rfl rfl (Nat.le_of_ble_eq_true rfl) (m_isPlace1 hn hn5 hp) ⟨Nat.le_refl _, Nat.le_refl _⟩ ?_
  show Ev (PP L xs) _ 104 6 [some (vR (some 190)), some (vI ((p : Nat) : Int)), some (vI y), none] [vI 1, vR (some 190)] (HS t m) _ _
  refine ev_if0 rfl rfl (fun c6 => absurd c6 (by decide)) (fun c6 => ?_)
  refine ev_go (pc' := 12) (ls' := [some (vR (some 190)), some (vI ((p : Nat) : Int)), some (vI y), none]) (st' := [vI 4, vI (-1), vI y, vR (some 190)]) (h1 := HS t m) 3 (by rfl) ?_
  have hin := m_isIn (L := L) (xs := xs) (t := t) (m := m) (d := 9) (x := y) (a := (-1)) (b := 4) (inI_of (by omega) (by omega)) rfl rfl
  rw [if_pos (by omega)] at hin
  refine ev_call rfl rfl (Nat.le_of_ble_eq_true rfl) hin ⟨Nat.le_refl _, Nat.le_refl _⟩ ?_
  show Ev (PP L xs) _ 104 15 [some (vR (some 190)), some (vI ((p : Nat) : Int)), some (vI y), none] [vI 1, vR (some 190)] (HS t m) _ _
  refine ev_if0 rfl rfl (fun c15 => absurd c15 (by decide)) (fun c15 => ?_)
  refine ev_go (pc' := 23) (ls' := [some (vR (some 190)), some (vI ((p : Nat) : Int)), some (vI y), none]) (st' := [vI 0, vR (some 190)]) (h1 := HS t m) 2 (by rfl) ?_
  refine ev_call rfl rfl (Nat.le_of_ble_eq_true rfl) (m_holds (x := 0) rfl) ⟨Nat.le_refl _, Nat.le_refl _⟩ ?_
  show Ev (PP L xs) _ 104 26 [some (vR (some 190)), some (vI ((p : Nat) : Int)), some (vI y), none] [vI 1] (HS t (up m 190 0 0)) _ _
  refine ev_if1 rfl rfl (fun c26 => ?_) (fun c26 => absurd c26 (by decide))
  refine ev_go (pc' := 32) (ls' := [some (vR (some 190)), some (vI ((p : Nat) : Int)), some (vI y), none]) (st' := [vR (some 190)]) (h1 := HS t (up m 190 0 0)) 1 (by rfl) ?_
  refine ev_getR rfl rfl (rfl : rf 190 12 = some 198) ?_
  refine ev_go (pc' := 36) (ls' := [some (vR (some 190)), some (vI ((p : Nat) : Int)), some (vI y), none]) (st' := [vI ((p : Nat) : Int), vR (some 198)]) (h1 := HS t (up m 190 0 0)) 1 (by rfl) ?_
  refine ev_ialdv (k := p) (v := (m 198 p)) rfl rfl rfl (by omega) (up_ne1 _ _ (by decide)) ?_
  refine ev_go (pc' := 39) (ls' := [some (vR (some 190)), some (vI ((p : Nat) : Int)), some (vI y), some (vI (m 198 p))]) (st' := [vR (some 190)]) (h1 := HS t (up m 190 0 0)) 2 (by rfl) ?_
  refine ev_getR rfl rfl (rfl : rf 190 12 = some 198) ?_
  refine ev_go (pc' := 44) (ls' := [some (vR (some 190)), some (vI ((p : Nat) : Int)), some (vI y), some (vI (m 198 p))]) (st' := [vI y, vI ((p : Nat) : Int), vR (some 198)]) (h1 := HS t (up m 190 0 0)) 2 (by rfl) ?_
  refine ev_iast (k := p) rfl rfl rfl (by omega) ?_
  refine ev_go (pc' := 46) (ls' := [some (vR (some 190)), some (vI ((p : Nat) : Int)), some (vI y), some (vI (m 198 p))]) (st' := [vI (m 198 p)]) (h1 := HS t (up (up m 190 0 0) 198 p y)) 1 (by rfl) ?_
  exact ev_retE rfl rfl (by first | rfl | (simp [*]; done) | (split <;> first | rfl | (exfalso; omega))) (by first | rfl | (simp [*]; done) | (split <;> first | rfl | (exfalso; omega)))
