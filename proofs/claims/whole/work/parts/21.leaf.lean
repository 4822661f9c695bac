/-! ===== contracts of the small methods (walked by a program) ===== -/
set_option maxRecDepth 10000 in
theorem c_tw_isEmpty {L : Nat} {xs : Nat → Int32} {d : Nat} {t : Bool × Nat × Nat} {m : mMM} (h : 0 ≤ m 2 1 ∧ m 2 1 ≤ 6) : Ev (PP L xs) d 56 0 (entL 1 [vR (some 2)]) [] (HS t m) (.inl (some (vI (if m 2 1 = 0 then 1 else 0)))) (HS t m) := by
  refine ev_go (pc' := 1) (ls' := [some (vR (some 2))]) (st' := [vR (some 2)]) (h1 := HS t m) 1 (by rfl) ?_
  refine ev_getI rfl rfl ?_
  refine ev_if1 rfl (inI_of (by omega) (by omega)) (fun c4 => ?_) (fun c4 => ?_)
  · refine ev_go (pc' := 12) (ls' := [some (vR (some 2))]) (st' := [vI 0]) (h1 := HS t m) 1 (by rfl) ?_
    exact ev_retE rfl rfl (by first | rfl | simp [*]) (by first | rfl | simp [*])
  · refine ev_go (pc' := 12) (ls' := [some (vR (some 2))]) (st' := [vI 1]) (h1 := HS t m) 2 (by rfl) ?_
    exact ev_retE rfl rfl (by first | rfl | simp [*]) (by first | rfl | simp [*])
set_option maxRecDepth 10000 in
theorem c_tw_isFull {L : Nat} {xs : Nat → Int32} {d : Nat} {t : Bool × Nat × Nat} {m : mMM} (h : 0 ≤ m 2 1 ∧ m 2 1 ≤ 6) : Ev (PP L xs) d 57 0 (entL 1 [vR (some 2)]) [] (HS t m) (.inl (some (vI (if 6 ≤ m 2 1 then 1 else 0)))) (HS t m) := by
  refine ev_go (pc' := 1) (ls' := [some (vR (some 2))]) (st' := [vR (some 2)]) (h1 := HS t m) 1 (by rfl) ?_
  refine ev_getI rfl rfl ?_
  refine ev_go (pc' := 6) (ls' := [some (vR (some 2))]) (st' := [vI 6, vI (m 2 1)]) (h1 := HS t m) 1 (by rfl) ?_
  refine ev_ic2 rfl (inI_of (by omega) (by omega)) rfl (fun c6 => ?_) (fun c6 => ?_)
  · refine ev_go (pc' := 14) (ls' := [some (vR (some 2))]) (st' := [vI 0]) (h1 := HS t m) 1 (by rfl) ?_
    exact ev_retE rfl rfl (by first | rfl | simp [*]) (by first | rfl | simp [*])
  · refine ev_go (pc' := 14) (ls' := [some (vR (some 2))]) (st' := [vI 1]) (h1 := HS t m) 2 (by rfl) ?_
    exact ev_retE rfl rfl (by first | rfl | simp [*]) (by first | rfl | simp [*])
set_option maxRecDepth 10000 in
theorem c_tw_code {L : Nat} {xs : Nat → Int32} {d : Nat} {t : Bool × Nat × Nat} {m : mMM}  : Ev (PP L xs) d 59 0 (entL 1 [vR (some 2)]) [] (HS t m) (.inl (some (vI (m 2 0)))) (HS t m) := by
  refine ev_go (pc' := 1) (ls' := [some (vR (some 2))]) (st' := [vR (some 2)]) (h1 := HS t m) 1 (by rfl) ?_
  refine ev_getI rfl rfl ?_
  exact ev_retE rfl rfl (by first | rfl | simp [*]) (by first | rfl | simp [*])
set_option maxRecDepth 10000 in
theorem c_tw_take {L : Nat} {xs : Nat → Int32} {d : Nat} {t : Bool × Nat × Nat} {m : mMM}  : Ev (PP L xs) d 60 0 (entL 2 [vR (some 2)]) [] (HS t m) (.inl (some (vI (m 2 0)))) (HS t (up (up m 2 0 0) 2 1 0)) := by
  refine ev_go (pc' := 1) (ls' := [some (vR (some 2)), none]) (st' := [vR (some 2)]) (h1 := HS t m) 1 (by rfl) ?_
  refine ev_getI rfl rfl ?_
  refine ev_go (pc' := 7) (ls' := [some (vR (some 2)), some (vI (m 2 0))]) (st' := [vI 0, vR (some 2)]) (h1 := HS t m) 3 (by rfl) ?_
  refine ev_putI rfl rfl ?_
  refine ev_go (pc' := 12) (ls' := [some (vR (some 2)), some (vI (m 2 0))]) (st' := [vI 0, vR (some 2)]) (h1 := HS t (up m 2 0 0)) 2 (by rfl) ?_
  refine ev_putI rfl rfl ?_
  refine ev_go (pc' := 16) (ls' := [some (vR (some 2)), some (vI (m 2 0))]) (st' := [vI (m 2 0)]) (h1 := HS t (up (up m 2 0 0) 2 1 0)) 1 (by rfl) ?_
  exact ev_retE rfl rfl (by first | rfl | simp [*]) (by first | rfl | simp [*])
