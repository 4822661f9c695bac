/-! ===== sums and thousandths ===== -/
set_option maxRecDepth 10000 in
theorem c_total {L : Nat} {xs : Nat → Int32} {d : Nat} {t : Bool × Nat × Nat} {m : mMM}  : Ev (PP L xs) d 81 0 (entL 8 [vR (some 189)]) [] (HS t m) (.inl (some (vJ (m 189 0 + m 189 1 + m 189 2 + m 189 3 + m 189 4)))) (HS t m) := by
  refine ev_go (pc' := 5) (ls' := [some (vR (some 189)), some (vJ 0), none, some (vR (some 189)), none, none, none, none]) (st' := [vR (some 189)]) (h1 := HS t m) 5 (by rfl) ?_
  refine ev_alen rfl rfl ?_
  refine ev_go (pc' := 15) (ls' := [some (vR (some 189)), some (vJ 0), none, some (vR (some 189)), some (vI 5), some (vI 0), none, none]) (st' := [vI 5, vI 0]) (h1 := HS t m) 5 (by rfl) ?_
  refine ev_ic3 rfl rfl rfl (fun c15 => absurd c15 (by decide)) (fun c15 => ?_)
  refine ev_go (pc' := 21) (ls' := [some (vR (some 189)), some (vJ 0), none, some (vR (some 189)), some (vI 5), some (vI 0), none, none]) (st' := [vI 0, vR (some 189)]) (h1 := HS t m) 2 (by rfl) ?_
  refine ev_lald (k := 0) rfl rfl rfl (by omega) ?_
  refine ev_go (pc' := 15) (ls' := [some (vR (some 189)), some (vJ (0 + (m 189 0))), none, some (vR (some 189)), some (vI 5), some (vI 1), some (vJ (m 189 0)), none]) (st' := [vI 5, vI 1]) (h1 := HS t m) 9 (by rfl) ?_
  refine ev_ic3 rfl rfl rfl (fun c15 => absurd c15 (by decide)) (fun c15 => ?_)
  refine ev_go (pc' := 21) (ls' := [some (vR (some 189)), some (vJ (0 + (m 189 0))), none, some (vR (some 189)), some (vI 5), some (vI 1), some (vJ (m 189 0)), none]) (st' := [vI 1, vR (some 189)]) (h1 := HS t m) 2 (by rfl) ?_
  refine ev_lald (k := 1) rfl rfl rfl (by omega) ?_
  refine ev_go (pc' := 15) (ls' := [some (vR (some 189)), some (vJ ((0 + (m 189 0)) + (m 189 1))), none, some (vR (some 189)), some (vI 5), some (vI 2), some (vJ (m 189 1)), none]) (st' := [vI 5, vI 2]) (h1 := HS t m) 9 (by rfl) ?_
  refine ev_ic3 rfl rfl rfl (fun c15 => absurd c15 (by decide)) (fun c15 => ?_)
  refine ev_go (pc' := 21) (ls' := [some (vR (some 189)), some (vJ ((0 + (m 189 0)) + (m 189 1))), none, some (vR (some 189)), some (vI 5), some (vI 2), some (vJ (m 189 1)), none]) (st' := [vI 2, vR (some 189)]) (h1 := HS t m) 2 (by rfl) ?_
  refine ev_lald (k := 2) rfl rfl rfl (by omega) ?_
  refine ev_go (pc' := 15) (ls' := [some (vR (some 189)), some (vJ (((0 + (m 189 0)) + (m 189 1)) + (m 189 2))), none, some (vR (some 189)), some (vI 5), some (vI 3), some (vJ (m 189 2)), none]) (st' := [vI 5, vI 3]) (h1 := HS t m) 9 (by rfl) ?_
  refine ev_ic3 rfl rfl rfl (fun c15 => absurd c15 (by decide)) (fun c15 => ?_)
  refine ev_go (pc' := 21) (ls' := [some (vR (some 189)), some (vJ (((0 + (m 189 0)) + (m 189 1)) + (m 189 2))), none, some (vR (some 189)), some (vI 5), some (vI 3), some (vJ (m 189 2)), none]) (st' := [vI 3, vR (some 189)]) (h1 := HS t m) 2 (by rfl) ?_
  refine ev_lald (k := 3) rfl rfl rfl (by omega) ?_
  refine ev_go (pc' := 15) (ls' := [some (vR (some 189)), some (vJ ((((0 + (m 189 0)) + (m 189 1)) + (m 189 2)) + (m 189 3))), none, some (vR (some 189)), some (vI 5), some (vI 4), some (vJ (m 189 3)), none]) (st' := [vI 5, vI 4]) (h1 := HS t m) 9 (by rfl) ?_
  refine ev_ic3 rfl rfl rfl (fun c15 => absurd c15 (by decide)) (fun c15 => ?_)
  refine ev_go (pc' := 21) (ls' := [some (vR (some 189)), some (vJ ((((0 + (m 189 0)) + (m 189 1)) + (m 189 2)) + (m 189 3))), none, some (vR (some 189)), some (vI 5), some (vI 4), some (vJ (m 189 3)), none]) (st' := [vI 4, vR (some 189)]) (h1 := HS t m) 2 (by rfl) ?_
  refine ev_lald (k := 4) rfl rfl rfl (by omega) ?_
  refine ev_go (pc' := 15) (ls' := [some (vR (some 189)), some (vJ (((((0 + (m 189 0)) + (m 189 1)) + (m 189 2)) + (m 189 3)) + (m 189 4))), none, some (vR (some 189)), some (vI 5), some (vI 5), some (vJ (m 189 4)), none]) (st' := [vI 5, vI 5]) (h1 := HS t m) 9 (by rfl) ?_
  refine ev_ic3 rfl rfl rfl (fun c15 => ?_) (fun c15 => absurd c15 (by decide))
  refine ev_go (pc' := 36) (ls' := [some (vR (some 189)), some (vJ (((((0 + (m 189 0)) + (m 189 1)) + (m 189 2)) + (m 189 3)) + (m 189 4))), none, some (vR (some 189)), some (vI 5), some (vI 5), some (vJ (m 189 4)), none]) (st' := [vJ (((((0 + (m 189 0)) + (m 189 1)) + (m 189 2)) + (m 189 3)) + (m 189 4))]) (h1 := HS t m) 1 (by rfl) ?_
  exact ev_retE rfl rfl (by rw [Int.zero_add]) rfl
set_option maxRecDepth 10000 in
theorem c_thou {L : Nat} {xs : Nat → Int32} {d : Nat} {t : Bool × Nat × Nat} {m : mMM} {x y : Int} (h0 : 0 ≤ x) (h1 : x ≤ y) (h2 : y ≤ 9000000000000000) (hy : 0 < y) : Ev (PP L xs) d 82 0 (entL 4 [vJ x, vJ y]) [] (HS t m) (.inl (some (vI (Int.tdiv (1000 * x) y)))) (HS t m) := by
  refine ev_go (pc' := 2) (ls' := [some (vJ x), none, some (vJ y), none]) (st' := [vJ 0, vJ y]) (h1 := HS t m) 2 (by rfl) ?_
  refine ev_lcmp rfl (inJ_of (by omega) (by omega)) rfl ?_
  refine ev_if5 rfl (cmp_in _ _) (fun c3 => ?_) (fun c3 => ?_)
  · have c3 := cz_le c3
    refine ev_go (pc' := 18) (ls' := [some (vJ x), none, some (vJ y), none]) (st' := [vI 0]) (h1 := HS t m) 1 (by rfl) ?_
    exact ev_retE rfl rfl (by first | rfl | (exfalso; omega)) rfl
  · have c3 := cz_gt c3
    refine ev_go (pc' := 12) (ls' := [some (vJ x), none, some (vJ y), none]) (st' := [vJ y, vJ (1000 * x)]) (h1 := HS t m) 4 (by rfl) ?_
    refine ev_ldiv rfl (inJ_of (by omega) (by omega)) (inJ_of (by omega) (by omega)) (by omega) ?_
    refine ev_go (pc' := 18) (ls' := [some (vJ x), none, some (vJ y), none]) (st' := [vI (Int.tdiv (1000 * x) y)]) (h1 := HS t m) 2 (by rfl) ?_
    exact ev_retE rfl rfl (by first | rfl | (exfalso; omega)) rfl
