/-! ===== the law's call, ask and draw ===== -/
set_option maxRecDepth 10000 in
theorem ca_letter {L : Nat} {xs : Nat → Int32} {d : Nat} {t t' : Bool × Nat × Nat} {m m' : mMM} {a b v : Int} (h : Ev (PP L xs) d 62 0 (entL 2 [vR (some 1), vI (a % 65536)]) [] (HS t m) (.inl (some (vI v))) (HS t' m')) (hc : t.2.1 ≤ t'.2.1 ∧ t.2.2 ≤ t'.2.2) : Ev (PP L xs) (d + 1) 91 0 (entL 4 [vR (some 1), vI 0, vI a, vI b]) [] (HS t m) (.inl (some (vI v))) (HS t' m') := by
  refine ev_go (pc' := 1) (ls' := [some (vR (some 1)), some (vI 0), some (vI a), some (vI b)]) (st' := [vI 0]) (h1 := HS t m) 1 (by rfl) ?_
  refine ev_if1 rfl rfl (fun c1 => absurd c1 (by decide)) (fun c1 => ?_)
  refine ev_go (pc' := 7) (ls' := [some (vR (some 1)), some (vI 0), some (vI a), some (vI b)]) (st' := [vI (a % 65536), vR (some 1)]) (h1 := HS t m) 3 (by rfl) ?_
  refine ev_call rfl rfl (Nat.le_of_ble_eq_true rfl) h hc ?_
  show Ev (PP L xs) _ 91 10 [some (vR (some 1)), some (vI 0), some (vI a), some (vI b)] [vI v] (HS t' m') _ _
  refine ev_go (pc' := 175) (ls' := [some (vR (some 1)), some (vI 0), some (vI a), some (vI b)]) (st' := [vI v]) (h1 := HS t' m') 1 (by rfl) ?_
  exact ev_retE rfl rfl (by first | rfl | (simp [*]; done) | (split <;> first | rfl | (exfalso; omega))) (by first | rfl | (simp [*]; done) | (split <;> first | rfl | (exfalso; omega)))
set_option maxRecDepth 10000 in
theorem cx_letter {L : Nat} {xs : Nat → Int32} {d : Nat} {t : Bool × Nat × Nat} {m : mMM} {a b : Int} {E : Nat} (h : Ev (PP L xs) d 62 0 (entL 2 [vR (some 1), vI (a % 65536)]) [] (HS t m) (.inr E) (HS (tt t) m)) : Ev (PP L xs) (d + 1) 91 0 (entL 4 [vR (some 1), vI 0, vI a, vI b]) [] (HS t m) (.inr E) (HS (tt t) m) := by
  refine ev_go (pc' := 1) (ls' := [some (vR (some 1)), some (vI 0), some (vI a), some (vI b)]) (st' := [vI 0]) (h1 := HS t m) 1 (by rfl) ?_
  refine ev_if1 rfl rfl (fun c1 => absurd c1 (by decide)) (fun c1 => ?_)
  refine ev_go (pc' := 7) (ls' := [some (vR (some 1)), some (vI 0), some (vI a), some (vI b)]) (st' := [vI (a % 65536), vR (some 1)]) (h1 := HS t m) 3 (by rfl) ?_
  exact ev_callX rfl rfl (Nat.le_of_ble_eq_true rfl) h ⟨Nat.le_succ _, Nat.le_add_right _ _⟩ rfl
set_option maxRecDepth 10000 in
theorem ca_tag {L : Nat} {xs : Nat → Int32} {d : Nat} {t t' : Bool × Nat × Nat} {m m' : mMM} {a b v : Int} (h : Ev (PP L xs) d 63 0 (entL 3 [vR (some 1), vI a]) [] (HS t m) (.inl (some (vI v))) (HS t' m')) (hc : t.2.1 ≤ t'.2.1 ∧ t.2.2 ≤ t'.2.2) : Ev (PP L xs) (d + 1) 91 0 (entL 4 [vR (some 1), vI 1, vI a, vI b]) [] (HS t m) (.inl (some (vI v))) (HS t' m') := by
  refine ev_go (pc' := 1) (ls' := [some (vR (some 1)), some (vI 1), some (vI a), some (vI b)]) (st' := [vI 1]) (h1 := HS t m) 1 (by rfl) ?_
  refine ev_if1 rfl rfl (fun c1 => ?_) (fun c1 => absurd c1 (by decide))
  refine ev_go (pc' := 15) (ls' := [some (vR (some 1)), some (vI 1), some (vI a), some (vI b)]) (st' := [vI 1, vI 1]) (h1 := HS t m) 2 (by rfl) ?_
  refine ev_ic1 rfl rfl rfl (fun c15 => absurd c15 (by decide)) (fun c15 => ?_)
  refine ev_go (pc' := 20) (ls' := [some (vR (some 1)), some (vI 1), some (vI a), some (vI b)]) (st' := [vI a, vR (some 1)]) (h1 := HS t m) 2 (by rfl) ?_
  refine ev_call rfl rfl (Nat.le_of_ble_eq_true rfl) h hc ?_
  show Ev (PP L xs) _ 91 23 [some (vR (some 1)), some (vI 1), some (vI a), some (vI b)] [vI v] (HS t' m') _ _
  refine ev_go (pc' := 175) (ls' := [some (vR (some 1)), some (vI 1), some (vI a), some (vI b)]) (st' := [vI v]) (h1 := HS t' m') 1 (by rfl) ?_
  exact ev_retE rfl rfl (by first | rfl | (simp [*]; done) | (split <;> first | rfl | (exfalso; omega))) (by first | rfl | (simp [*]; done) | (split <;> first | rfl | (exfalso; omega)))
set_option maxRecDepth 10000 in
theorem cx_tag {L : Nat} {xs : Nat → Int32} {d : Nat} {t : Bool × Nat × Nat} {m : mMM} {a b : Int} {E : Nat} (h : Ev (PP L xs) d 63 0 (entL 3 [vR (some 1), vI a]) [] (HS t m) (.inr E) (HS (tt t) m)) : Ev (PP L xs) (d + 1) 91 0 (entL 4 [vR (some 1), vI 1, vI a, vI b]) [] (HS t m) (.inr E) (HS (tt t) m) := by
  refine ev_go (pc' := 1) (ls' := [some (vR (some 1)), some (vI 1), some (vI a), some (vI b)]) (st' := [vI 1]) (h1 := HS t m) 1 (by rfl) ?_
  refine ev_if1 rfl rfl (fun c1 => ?_) (fun c1 => absurd c1 (by decide))
  refine ev_go (pc' := 15) (ls' := [some (vR (some 1)), some (vI 1), some (vI a), some (vI b)]) (st' := [vI 1, vI 1]) (h1 := HS t m) 2 (by rfl) ?_
  refine ev_ic1 rfl rfl rfl (fun c15 => absurd c15 (by decide)) (fun c15 => ?_)
  refine ev_go (pc' := 20) (ls' := [some (vR (some 1)), some (vI 1), some (vI a), some (vI b)]) (st' := [vI a, vR (some 1)]) (h1 := HS t m) 2 (by rfl) ?_
  exact ev_callX rfl rfl (Nat.le_of_ble_eq_true rfl) h ⟨Nat.le_succ _, Nat.le_add_right _ _⟩ rfl
set_option maxRecDepth 10000 in
theorem ca_add {L : Nat} {xs : Nat → Int32} {d : Nat} {t t' : Bool × Nat × Nat} {m m' : mMM} {a b v : Int} (h : Ev (PP L xs) d 64 0 (entL 1 [vR (some 1)]) [] (HS t m) (.inl (some (vI v))) (HS t' m')) (hc : t.2.1 ≤ t'.2.1 ∧ t.2.2 ≤ t'.2.2) : Ev (PP L xs) (d + 1) 91 0 (entL 4 [vR (some 1), vI 2, vI a, vI b]) [] (HS t m) (.inl (some (vI v))) (HS t' m') := by
  refine ev_go (pc' := 1) (ls' := [some (vR (some 1)), some (vI 2), some (vI a), some (vI b)]) (st' := [vI 2]) (h1 := HS t m) 1 (by rfl) ?_
  refine ev_if1 rfl rfl (fun c1 => ?_) (fun c1 => absurd c1 (by decide))
  refine ev_go (pc' := 15) (ls' := [some (vR (some 1)), some (vI 2), some (vI a), some (vI b)]) (st' := [vI 1, vI 2]) (h1 := HS t m) 2 (by rfl) ?_
  refine ev_ic1 rfl rfl rfl (fun c15 => ?_) (fun c15 => absurd c15 (by decide))
  refine ev_go (pc' := 28) (ls' := [some (vR (some 1)), some (vI 2), some (vI a), some (vI b)]) (st' := [vI 2, vI 2]) (h1 := HS t m) 2 (by rfl) ?_
  refine ev_ic1 rfl rfl rfl (fun c28 => absurd c28 (by decide)) (fun c28 => ?_)
  refine ev_go (pc' := 32) (ls' := [some (vR (some 1)), some (vI 2), some (vI a), some (vI b)]) (st' := [vR (some 1)]) (h1 := HS t m) 1 (by rfl) ?_
  refine ev_call rfl rfl (Nat.le_of_ble_eq_true rfl) h hc ?_
  show Ev (PP L xs) _ 91 35 [some (vR (some 1)), some (vI 2), some (vI a), some (vI b)] [vI v] (HS t' m') _ _
  refine ev_go (pc' := 175) (ls' := [some (vR (some 1)), some (vI 2), some (vI a), some (vI b)]) (st' := [vI v]) (h1 := HS t' m') 1 (by rfl) ?_
  exact ev_retE rfl rfl (by first | rfl | (simp [*]; done) | (split <;> first | rfl | (exfalso; omega))) (by first | rfl | (simp [*]; done) | (split <;> first | rfl | (exfalso; omega)))
set_option maxRecDepth 10000 in
theorem cx_add {L : Nat} {xs : Nat → Int32} {d : Nat} {t : Bool × Nat × Nat} {m : mMM} {a b : Int} {E : Nat} (h : Ev (PP L xs) d 64 0 (entL 1 [vR (some 1)]) [] (HS t m) (.inr E) (HS (tt t) m)) : Ev (PP L xs) (d + 1) 91 0 (entL 4 [vR (some 1), vI 2, vI a, vI b]) [] (HS t m) (.inr E) (HS (tt t) m) := by
  refine ev_go (pc' := 1) (ls' := [some (vR (some 1)), some (vI 2), some (vI a), some (vI b)]) (st' := [vI 2]) (h1 := HS t m) 1 (by rfl) ?_
  refine ev_if1 rfl rfl (fun c1 => ?_) (fun c1 => absurd c1 (by decide))
  refine ev_go (pc' := 15) (ls' := [some (vR (some 1)), some (vI 2), some (vI a), some (vI b)]) (st' := [vI 1, vI 2]) (h1 := HS t m) 2 (by rfl) ?_
  refine ev_ic1 rfl rfl rfl (fun c15 => ?_) (fun c15 => absurd c15 (by decide))
  refine ev_go (pc' := 28) (ls' := [some (vR (some 1)), some (vI 2), some (vI a), some (vI b)]) (st' := [vI 2, vI 2]) (h1 := HS t m) 2 (by rfl) ?_
  refine ev_ic1 rfl rfl rfl (fun c28 => absurd c28 (by decide)) (fun c28 => ?_)
  refine ev_go (pc' := 32) (ls' := [some (vR (some 1)), some (vI 2), some (vI a), some (vI b)]) (st' := [vR (some 1)]) (h1 := HS t m) 1 (by rfl) ?_
  exact ev_callX rfl rfl (Nat.le_of_ble_eq_true rfl) h ⟨Nat.le_succ _, Nat.le_add_right _ _⟩ rfl
set_option maxRecDepth 10000 in
theorem ca_text00 {L : Nat} {xs : Nat → Int32} {d : Nat} {t t' : Bool × Nat × Nat} {m m' : mMM} {a b v : Int} (h : Ev (PP L xs) d 65 0 (entL 3 [vR (some 1), vI a, vI 0]) [] (HS t m) (.inl (some (vI 0))) (HS t' m')) (hc : t.2.1 ≤ t'.2.1 ∧ t.2.2 ≤ t'.2.2) : Ev (PP L xs) (d + 1) 91 0 (entL 4 [vR (some 1), vI 3, vI a, vI 0]) [] (HS t m) (.inl (some (vI 0))) (HS t' m') := by
  refine ev_go (pc' := 1) (ls' := [some (vR (some 1)), some (vI 3), some (vI a), some (vI 0)]) (st' := [vI 3]) (h1 := HS t m) 1 (by rfl) ?_
  refine ev_if1 rfl rfl (fun c1 => ?_) (fun c1 => absurd c1 (by decide))
  refine ev_go (pc' := 15) (ls' := [some (vR (some 1)), some (vI 3), some (vI a), some (vI 0)]) (st' := [vI 1, vI 3]) (h1 := HS t m) 2 (by rfl) ?_
  refine ev_ic1 rfl rfl rfl (fun c15 => ?_) (fun c15 => absurd c15 (by decide))
  refine ev_go (pc' := 28) (ls' := [some (vR (some 1)), some (vI 3), some (vI a), some (vI 0)]) (st' := [vI 2, vI 3]) (h1 := HS t m) 2 (by rfl) ?_
  refine ev_ic1 rfl rfl rfl (fun c28 => ?_) (fun c28 => absurd c28 (by decide))
  refine ev_go (pc' := 40) (ls' := [some (vR (some 1)), some (vI 3), some (vI a), some (vI 0)]) (st' := [vI 3, vI 3]) (h1 := HS t m) 2 (by rfl) ?_
  refine ev_ic1 rfl rfl rfl (fun c40 => absurd c40 (by decide)) (fun c40 => ?_)
  refine ev_go (pc' := 47) (ls' := [some (vR (some 1)), some (vI 3), some (vI a), some (vI 0)]) (st' := [vI 1, vI 0, vI a, vR (some 1)]) (h1 := HS t m) 4 (by rfl) ?_
  refine ev_ic1 rfl rfl rfl (fun c47 => ?_) (fun c47 => absurd c47 (by decide))
  refine ev_go (pc' := 55) (ls' := [some (vR (some 1)), some (vI 3), some (vI a), some (vI 0)]) (st' := [vI 0, vI a, vR (some 1)]) (h1 := HS t m) 1 (by rfl) ?_
  refine ev_call rfl rfl (Nat.le_of_ble_eq_true rfl) h hc ?_
  show Ev (PP L xs) _ 91 58 [some (vR (some 1)), some (vI 3), some (vI a), some (vI 0)] [vI 0] (HS t' m') _ _
  refine ev_if0 rfl rfl (fun c58 => ?_) (fun c58 => absurd c58 (by decide))
  refine ev_go (pc' := 175) (ls' := [some (vR (some 1)), some (vI 3), some (vI a), some (vI 0)]) (st' := [vI 0]) (h1 := HS t' m') 2 (by rfl) ?_
  exact ev_retE rfl rfl (by first | rfl | (simp [*]; done) | (split <;> first | rfl | (exfalso; omega))) (by first | rfl | (simp [*]; done) | (split <;> first | rfl | (exfalso; omega)))
set_option maxRecDepth 10000 in
theorem ca_text01 {L : Nat} {xs : Nat → Int32} {d : Nat} {t t' : Bool × Nat × Nat} {m m' : mMM} {a b v : Int} (h : Ev (PP L xs) d 65 0 (entL 3 [vR (some 1), vI a, vI 0]) [] (HS t m) (.inl (some (vI 1))) (HS t' m')) (hc : t.2.1 ≤ t'.2.1 ∧ t.2.2 ≤ t'.2.2) : Ev (PP L xs) (d + 1) 91 0 (entL 4 [vR (some 1), vI 3, vI a, vI 0]) [] (HS t m) (.inl (some (vI 1))) (HS t' m') := by
  refine ev_go (pc' := 1) (ls' := [some (vR (some 1)), some (vI 3), some (vI a), some (vI 0)]) (st' := [vI 3]) (h1 := HS t m) 1 (by rfl) ?_
  refine ev_if1 rfl rfl (fun c1 => ?_) (fun c1 => absurd c1 (by decide))
  refine ev_go (pc' := 15) (ls' := [some (vR (some 1)), some (vI 3), some (vI a), some (vI 0)]) (st' := [vI 1, vI 3]) (h1 := HS t m) 2 (by rfl) ?_
  refine ev_ic1 rfl rfl rfl (fun c15 => ?_) (fun c15 => absurd c15 (by decide))
  refine ev_go (pc' := 28) (ls' := [some (vR (some 1)), some (vI 3), some (vI a), some (vI 0)]) (st' := [vI 2, vI 3]) (h1 := HS t m) 2 (by rfl) ?_
  refine ev_ic1 rfl rfl rfl (fun c28 => ?_) (fun c28 => absurd c28 (by decide))
  refine ev_go (pc' := 40) (ls' := [some (vR (some 1)), some (vI 3), some (vI a), some (vI 0)]) (st' := [vI 3, vI 3]) (h1 := HS t m) 2 (by rfl) ?_
  refine ev_ic1 rfl rfl rfl (fun c40 => absurd c40 (by decide)) (fun c40 => ?_)
  refine ev_go (pc' := 47) (ls' := [some (vR (some 1)), some (vI 3), some (vI a), some (vI 0)]) (st' := [vI 1, vI 0, vI a, vR (some 1)]) (h1 := HS t m) 4 (by rfl) ?_
  refine ev_ic1 rfl rfl rfl (fun c47 => ?_) (fun c47 => absurd c47 (by decide))
  refine ev_go (pc' := 55) (ls' := [some (vR (some 1)), some (vI 3), some (vI a), some (vI 0)]) (st' := [vI 0, vI a, vR (some 1)]) (h1 := HS t m) 1 (by rfl) ?_
  refine ev_call rfl rfl (Nat.le_of_ble_eq_true rfl) h hc ?_
  show Ev (PP L xs) _ 91 58 [some (vR (some 1)), some (vI 3), some (vI a), some (vI 0)] [vI 1] (HS t' m') _ _
  refine ev_if0 rfl rfl (fun c58 => absurd c58 (by decide)) (fun c58 => ?_)
  refine ev_go (pc' := 175) (ls' := [some (vR (some 1)), some (vI 3), some (vI a), some (vI 0)]) (st' := [vI 1]) (h1 := HS t' m') 2 (by rfl) ?_
  exact ev_retE rfl rfl (by first | rfl | (simp [*]; done) | (split <;> first | rfl | (exfalso; omega))) (by first | rfl | (simp [*]; done) | (split <;> first | rfl | (exfalso; omega)))
set_option maxRecDepth 10000 in
theorem ca_text10 {L : Nat} {xs : Nat → Int32} {d : Nat} {t t' : Bool × Nat × Nat} {m m' : mMM} {a b v : Int} (h : Ev (PP L xs) d 65 0 (entL 3 [vR (some 1), vI a, vI 1]) [] (HS t m) (.inl (some (vI 0))) (HS t' m')) (hc : t.2.1 ≤ t'.2.1 ∧ t.2.2 ≤ t'.2.2) : Ev (PP L xs) (d + 1) 91 0 (entL 4 [vR (some 1), vI 3, vI a, vI 1]) [] (HS t m) (.inl (some (vI 0))) (HS t' m') := by
  refine ev_go (pc' := 1) (ls' := [some (vR (some 1)), some (vI 3), some (vI a), some (vI 1)]) (st' := [vI 3]) (h1 := HS t m) 1 (by rfl) ?_
  refine ev_if1 rfl rfl (fun c1 => ?_) (fun c1 => absurd c1 (by decide))
  refine ev_go (pc' := 15) (ls' := [some (vR (some 1)), some (vI 3), some (vI a), some (vI 1)]) (st' := [vI 1, vI 3]) (h1 := HS t m) 2 (by rfl) ?_
  refine ev_ic1 rfl rfl rfl (fun c15 => ?_) (fun c15 => absurd c15 (by decide))
  refine ev_go (pc' := 28) (ls' := [some (vR (some 1)), some (vI 3), some (vI a), some (vI 1)]) (st' := [vI 2, vI 3]) (h1 := HS t m) 2 (by rfl) ?_
  refine ev_ic1 rfl rfl rfl (fun c28 => ?_) (fun c28 => absurd c28 (by decide))
  refine ev_go (pc' := 40) (ls' := [some (vR (some 1)), some (vI 3), some (vI a), some (vI 1)]) (st' := [vI 3, vI 3]) (h1 := HS t m) 2 (by rfl) ?_
  refine ev_ic1 rfl rfl rfl (fun c40 => absurd c40 (by decide)) (fun c40 => ?_)
  refine ev_go (pc' := 47) (ls' := [some (vR (some 1)), some (vI 3), some (vI a), some (vI 1)]) (st' := [vI 1, vI 1, vI a, vR (some 1)]) (h1 := HS t m) 4 (by rfl) ?_
  refine ev_ic1 rfl rfl rfl (fun c47 => absurd c47 (by decide)) (fun c47 => ?_)
  refine ev_go (pc' := 55) (ls' := [some (vR (some 1)), some (vI 3), some (vI a), some (vI 1)]) (st' := [vI 1, vI a, vR (some 1)]) (h1 := HS t m) 2 (by rfl) ?_
  refine ev_call rfl rfl (Nat.le_of_ble_eq_true rfl) h hc ?_
  show Ev (PP L xs) _ 91 58 [some (vR (some 1)), some (vI 3), some (vI a), some (vI 1)] [vI 0] (HS t' m') _ _
  refine ev_if0 rfl rfl (fun c58 => ?_) (fun c58 => absurd c58 (by decide))
  refine ev_go (pc' := 175) (ls' := [some (vR (some 1)), some (vI 3), some (vI a), some (vI 1)]) (st' := [vI 0]) (h1 := HS t' m') 2 (by rfl) ?_
  exact ev_retE rfl rfl (by first | rfl | (simp [*]; done) | (split <;> first | rfl | (exfalso; omega))) (by first | rfl | (simp [*]; done) | (split <;> first | rfl | (exfalso; omega)))
set_option maxRecDepth 10000 in
theorem ca_text11 {L : Nat} {xs : Nat → Int32} {d : Nat} {t t' : Bool × Nat × Nat} {m m' : mMM} {a b v : Int} (h : Ev (PP L xs) d 65 0 (entL 3 [vR (some 1), vI a, vI 1]) [] (HS t m) (.inl (some (vI 1))) (HS t' m')) (hc : t.2.1 ≤ t'.2.1 ∧ t.2.2 ≤ t'.2.2) : Ev (PP L xs) (d + 1) 91 0 (entL 4 [vR (some 1), vI 3, vI a, vI 1]) [] (HS t m) (.inl (some (vI 1))) (HS t' m') := by
  refine ev_go (pc' := 1) (ls' := [some (vR (some 1)), some (vI 3), some (vI a), some (vI 1)]) (st' := [vI 3]) (h1 := HS t m) 1 (by rfl) ?_
  refine ev_if1 rfl rfl (fun c1 => ?_) (fun c1 => absurd c1 (by decide))
  refine ev_go (pc' := 15) (ls' := [some (vR (some 1)), some (vI 3), some (vI a), some (vI 1)]) (st' := [vI 1, vI 3]) (h1 := HS t m) 2 (by rfl) ?_
  refine ev_ic1 rfl rfl rfl (fun c15 => ?_) (fun c15 => absurd c15 (by decide))
  refine ev_go (pc' := 28) (ls' := [some (vR (some 1)), some (vI 3), some (vI a), some (vI 1)]) (st' := [vI 2, vI 3]) (h1 := HS t m) 2 (by rfl) ?_
  refine ev_ic1 rfl rfl rfl (fun c28 => ?_) (fun c28 => absurd c28 (by decide))
  refine ev_go (pc' := 40) (ls' := [some (vR (some 1)), some (vI 3), some (vI a), some (vI 1)]) (st' := [vI 3, vI 3]) (h1 := HS t m) 2 (by rfl) ?_
  refine ev_ic1 rfl rfl rfl (fun c40 => absurd c40 (by decide)) (fun c40 => ?_)
  refine ev_go (pc' := 47) (ls' := [some (vR (some 1)), some (vI 3), some (vI a), some (vI 1)]) (st' := [vI 1, vI 1, vI a, vR (some 1)]) (h1 := HS t m) 4 (by rfl) ?_
  refine ev_ic1 rfl rfl rfl (fun c47 => absurd c47 (by decide)) (fun c47 => ?_)
  refine ev_go (pc' := 55) (ls' := [some (vR (some 1)), some (vI 3), some (vI a), some (vI 1)]) (st' := [vI 1, vI a, vR (some 1)]) (h1 := HS t m) 2 (by rfl) ?_
  refine ev_call rfl rfl (Nat.le_of_ble_eq_true rfl) h hc ?_
  show Ev (PP L xs) _ 91 58 [some (vR (some 1)), some (vI 3), some (vI a), some (vI 1)] [vI 1] (HS t' m') _ _
  refine ev_if0 rfl rfl (fun c58 => absurd c58 (by decide)) (fun c58 => ?_)
  refine ev_go (pc' := 175) (ls' := [some (vR (some 1)), some (vI 3), some (vI a), some (vI 1)]) (st' := [vI 1]) (h1 := HS t' m') 2 (by rfl) ?_
  exact ev_retE rfl rfl (by first | rfl | (simp [*]; done) | (split <;> first | rfl | (exfalso; omega))) (by first | rfl | (simp [*]; done) | (split <;> first | rfl | (exfalso; omega)))
set_option maxRecDepth 10000 in
theorem ca_word {L : Nat} {xs : Nat → Int32} {d : Nat} {t t' : Bool × Nat × Nat} {m m' : mMM} {a b v : Int} (h : Ev (PP L xs) d 66 0 (entL 1 [vR (some 1)]) [] (HS t m) (.inl (some (vI v))) (HS t' m')) (hc : t.2.1 ≤ t'.2.1 ∧ t.2.2 ≤ t'.2.2) : Ev (PP L xs) (d + 1) 91 0 (entL 4 [vR (some 1), vI 4, vI a, vI b]) [] (HS t m) (.inl (some (vI v))) (HS t' m') := by
  refine ev_go (pc' := 1) (ls' := [some (vR (some 1)), some (vI 4), some (vI a), some (vI b)]) (st' := [vI 4]) (h1 := HS t m) 1 (by rfl) ?_
  refine ev_if1 rfl rfl (fun c1 => ?_) (fun c1 => absurd c1 (by decide))
  refine ev_go (pc' := 15) (ls' := [some (vR (some 1)), some (vI 4), some (vI a), some (vI b)]) (st' := [vI 1, vI 4]) (h1 := HS t m) 2 (by rfl) ?_
  refine ev_ic1 rfl rfl rfl (fun c15 => ?_) (fun c15 => absurd c15 (by decide))
  refine ev_go (pc' := 28) (ls' := [some (vR (some 1)), some (vI 4), some (vI a), some (vI b)]) (st' := [vI 2, vI 4]) (h1 := HS t m) 2 (by rfl) ?_
  refine ev_ic1 rfl rfl rfl (fun c28 => ?_) (fun c28 => absurd c28 (by decide))
  refine ev_go (pc' := 40) (ls' := [some (vR (some 1)), some (vI 4), some (vI a), some (vI b)]) (st' := [vI 3, vI 4]) (h1 := HS t m) 2 (by rfl) ?_
  refine ev_ic1 rfl rfl rfl (fun c40 => ?_) (fun c40 => absurd c40 (by decide))
  refine ev_go (pc' := 71) (ls' := [some (vR (some 1)), some (vI 4), some (vI a), some (vI b)]) (st' := [vI 4, vI 4]) (h1 := HS t m) 2 (by rfl) ?_
  refine ev_ic1 rfl rfl rfl (fun c71 => absurd c71 (by decide)) (fun c71 => ?_)
  refine ev_go (pc' := 75) (ls' := [some (vR (some 1)), some (vI 4), some (vI a), some (vI b)]) (st' := [vR (some 1)]) (h1 := HS t m) 1 (by rfl) ?_
  refine ev_call rfl rfl (Nat.le_of_ble_eq_true rfl) h hc ?_
  show Ev (PP L xs) _ 91 78 [some (vR (some 1)), some (vI 4), some (vI a), some (vI b)] [vI v] (HS t' m') _ _
  refine ev_go (pc' := 175) (ls' := [some (vR (some 1)), some (vI 4), some (vI a), some (vI b)]) (st' := [vI v]) (h1 := HS t' m') 1 (by rfl) ?_
  exact ev_retE rfl rfl (by first | rfl | (simp [*]; done) | (split <;> first | rfl | (exfalso; omega))) (by first | rfl | (simp [*]; done) | (split <;> first | rfl | (exfalso; omega)))
set_option maxRecDepth 10000 in
theorem cx_word {L : Nat} {xs : Nat → Int32} {d : Nat} {t : Bool × Nat × Nat} {m : mMM} {a b : Int} {E : Nat} (h : Ev (PP L xs) d 66 0 (entL 1 [vR (some 1)]) [] (HS t m) (.inr E) (HS (tt t) m)) : Ev (PP L xs) (d + 1) 91 0 (entL 4 [vR (some 1), vI 4, vI a, vI b]) [] (HS t m) (.inr E) (HS (tt t) m) := by
  refine ev_go (pc' := 1) (ls' := [some (vR (some 1)), some (vI 4), some (vI a), some (vI b)]) (st' := [vI 4]) (h1 := HS t m) 1 (by rfl) ?_
  refine ev_if1 rfl rfl (fun c1 => ?_) (fun c1 => absurd c1 (by decide))
  refine ev_go (pc' := 15) (ls' := [some (vR (some 1)), some (vI 4), some (vI a), some (vI b)]) (st' := [vI 1, vI 4]) (h1 := HS t m) 2 (by rfl) ?_
  refine ev_ic1 rfl rfl rfl (fun c15 => ?_) (fun c15 => absurd c15 (by decide))
  refine ev_go (pc' := 28) (ls' := [some (vR (some 1)), some (vI 4), some (vI a), some (vI b)]) (st' := [vI 2, vI 4]) (h1 := HS t m) 2 (by rfl) ?_
  refine ev_ic1 rfl rfl rfl (fun c28 => ?_) (fun c28 => absurd c28 (by decide))
  refine ev_go (pc' := 40) (ls' := [some (vR (some 1)), some (vI 4), some (vI a), some (vI b)]) (st' := [vI 3, vI 4]) (h1 := HS t m) 2 (by rfl) ?_
  refine ev_ic1 rfl rfl rfl (fun c40 => ?_) (fun c40 => absurd c40 (by decide))
  refine ev_go (pc' := 71) (ls' := [some (vR (some 1)), some (vI 4), some (vI a), some (vI b)]) (st' := [vI 4, vI 4]) (h1 := HS t m) 2 (by rfl) ?_
  refine ev_ic1 rfl rfl rfl (fun c71 => absurd c71 (by decide)) (fun c71 => ?_)
  refine ev_go (pc' := 75) (ls' := [some (vR (some 1)), some (vI 4), some (vI a), some (vI b)]) (st' := [vR (some 1)]) (h1 := HS t m) 1 (by rfl) ?_
  exact ev_callX rfl rfl (Nat.le_of_ble_eq_true rfl) h ⟨Nat.le_succ _, Nat.le_add_right _ _⟩ rfl
set_option maxRecDepth 10000 in
theorem ca_lock {L : Nat} {xs : Nat → Int32} {d : Nat} {t t' : Bool × Nat × Nat} {m m' : mMM} {a b v : Int} (h : Ev (PP L xs) d 68 0 (entL 3 [vR (some 1), vI a, vI b]) [] (HS t m) (.inl (some (vI v))) (HS t' m')) (hc : t.2.1 ≤ t'.2.1 ∧ t.2.2 ≤ t'.2.2) : Ev (PP L xs) (d + 1) 91 0 (entL 4 [vR (some 1), vI 5, vI a, vI b]) [] (HS t m) (.inl (some (vI v))) (HS t' m') := by
  refine ev_go (pc' := 1) (ls' := [some (vR (some 1)), some (vI 5), some (vI a), some (vI b)]) (st' := [vI 5]) (h1 := HS t m) 1 (by rfl) ?_
  refine ev_if1 rfl rfl (fun c1 => ?_) (fun c1 => absurd c1 (by decide))
  refine ev_go (pc' := 15) (ls' := [some (vR (some 1)), some (vI 5), some (vI a), some (vI b)]) (st' := [vI 1, vI 5]) (h1 := HS t m) 2 (by rfl) ?_
  refine ev_ic1 rfl rfl rfl (fun c15 => ?_) (fun c15 => absurd c15 (by decide))
  refine ev_go (pc' := 28) (ls' := [some (vR (some 1)), some (vI 5), some (vI a), some (vI b)]) (st' := [vI 2, vI 5]) (h1 := HS t m) 2 (by rfl) ?_
  refine ev_ic1 rfl rfl rfl (fun c28 => ?_) (fun c28 => absurd c28 (by decide))
  refine ev_go (pc' := 40) (ls' := [some (vR (some 1)), some (vI 5), some (vI a), some (vI b)]) (st' := [vI 3, vI 5]) (h1 := HS t m) 2 (by rfl) ?_
  refine ev_ic1 rfl rfl rfl (fun c40 => ?_) (fun c40 => absurd c40 (by decide))
  refine ev_go (pc' := 71) (ls' := [some (vR (some 1)), some (vI 5), some (vI a), some (vI b)]) (st' := [vI 4, vI 5]) (h1 := HS t m) 2 (by rfl) ?_
  refine ev_ic1 rfl rfl rfl (fun c71 => ?_) (fun c71 => absurd c71 (by decide))
  refine ev_go (pc' := 83) (ls' := [some (vR (some 1)), some (vI 5), some (vI a), some (vI b)]) (st' := [vI 5, vI 5]) (h1 := HS t m) 2 (by rfl) ?_
  refine ev_ic1 rfl rfl rfl (fun c83 => absurd c83 (by decide)) (fun c83 => ?_)
  refine ev_go (pc' := 89) (ls' := [some (vR (some 1)), some (vI 5), some (vI a), some (vI b)]) (st' := [vI b, vI a, vR (some 1)]) (h1 := HS t m) 3 (by rfl) ?_
  refine ev_call rfl rfl (Nat.le_of_ble_eq_true rfl) h hc ?_
  show Ev (PP L xs) _ 91 92 [some (vR (some 1)), some (vI 5), some (vI a), some (vI b)] [vI v] (HS t' m') _ _
  refine ev_go (pc' := 175) (ls' := [some (vR (some 1)), some (vI 5), some (vI a), some (vI b)]) (st' := [vI v]) (h1 := HS t' m') 1 (by rfl) ?_
  exact ev_retE rfl rfl (by first | rfl | (simp [*]; done) | (split <;> first | rfl | (exfalso; omega))) (by first | rfl | (simp [*]; done) | (split <;> first | rfl | (exfalso; omega)))
set_option maxRecDepth 10000 in
theorem cx_lock {L : Nat} {xs : Nat → Int32} {d : Nat} {t : Bool × Nat × Nat} {m : mMM} {a b : Int} {E : Nat} (h : Ev (PP L xs) d 68 0 (entL 3 [vR (some 1), vI a, vI b]) [] (HS t m) (.inr E) (HS (tt t) m)) : Ev (PP L xs) (d + 1) 91 0 (entL 4 [vR (some 1), vI 5, vI a, vI b]) [] (HS t m) (.inr E) (HS (tt t) m) := by
  refine ev_go (pc' := 1) (ls' := [some (vR (some 1)), some (vI 5), some (vI a), some (vI b)]) (st' := [vI 5]) (h1 := HS t m) 1 (by rfl) ?_
  refine ev_if1 rfl rfl (fun c1 => ?_) (fun c1 => absurd c1 (by decide))
  refine ev_go (pc' := 15) (ls' := [some (vR (some 1)), some (vI 5), some (vI a), some (vI b)]) (st' := [vI 1, vI 5]) (h1 := HS t m) 2 (by rfl) ?_
  refine ev_ic1 rfl rfl rfl (fun c15 => ?_) (fun c15 => absurd c15 (by decide))
  refine ev_go (pc' := 28) (ls' := [some (vR (some 1)), some (vI 5), some (vI a), some (vI b)]) (st' := [vI 2, vI 5]) (h1 := HS t m) 2 (by rfl) ?_
  refine ev_ic1 rfl rfl rfl (fun c28 => ?_) (fun c28 => absurd c28 (by decide))
  refine ev_go (pc' := 40) (ls' := [some (vR (some 1)), some (vI 5), some (vI a), some (vI b)]) (st' := [vI 3, vI 5]) (h1 := HS t m) 2 (by rfl) ?_
  refine ev_ic1 rfl rfl rfl (fun c40 => ?_) (fun c40 => absurd c40 (by decide))
  refine ev_go (pc' := 71) (ls' := [some (vR (some 1)), some (vI 5), some (vI a), some (vI b)]) (st' := [vI 4, vI 5]) (h1 := HS t m) 2 (by rfl) ?_
  refine ev_ic1 rfl rfl rfl (fun c71 => ?_) (fun c71 => absurd c71 (by decide))
  refine ev_go (pc' := 83) (ls' := [some (vR (some 1)), some (vI 5), some (vI a), some (vI b)]) (st' := [vI 5, vI 5]) (h1 := HS t m) 2 (by rfl) ?_
  refine ev_ic1 rfl rfl rfl (fun c83 => absurd c83 (by decide)) (fun c83 => ?_)
  refine ev_go (pc' := 89) (ls' := [some (vR (some 1)), some (vI 5), some (vI a), some (vI b)]) (st' := [vI b, vI a, vR (some 1)]) (h1 := HS t m) 3 (by rfl) ?_
  exact ev_callX rfl rfl (Nat.le_of_ble_eq_true rfl) h ⟨Nat.le_succ _, Nat.le_add_right _ _⟩ rfl
set_option maxRecDepth 10000 in
theorem ca_weight {L : Nat} {xs : Nat → Int32} {d : Nat} {t t' : Bool × Nat × Nat} {m m' : mMM} {a b v : Int} (h : Ev (PP L xs) d 69 0 (entL 2 [vR (some 1), vI a]) [] (HS t m) (.inl (some (vI v))) (HS t' m')) (hc : t.2.1 ≤ t'.2.1 ∧ t.2.2 ≤ t'.2.2) : Ev (PP L xs) (d + 1) 91 0 (entL 4 [vR (some 1), vI 6, vI a, vI b]) [] (HS t m) (.inl (some (vI v))) (HS t' m') := by
  refine ev_go (pc' := 1) (ls' := [some (vR (some 1)), some (vI 6), some (vI a), some (vI b)]) (st' := [vI 6]) (h1 := HS t m) 1 (by rfl) ?_
  refine ev_if1 rfl rfl (fun c1 => ?_) (fun c1 => absurd c1 (by decide))
  refine ev_go (pc' := 15) (ls' := [some (vR (some 1)), some (vI 6), some (vI a), some (vI b)]) (st' := [vI 1, vI 6]) (h1 := HS t m) 2 (by rfl) ?_
  refine ev_ic1 rfl rfl rfl (fun c15 => ?_) (fun c15 => absurd c15 (by decide))
  refine ev_go (pc' := 28) (ls' := [some (vR (some 1)), some (vI 6), some (vI a), some (vI b)]) (st' := [vI 2, vI 6]) (h1 := HS t m) 2 (by rfl) ?_
  refine ev_ic1 rfl rfl rfl (fun c28 => ?_) (fun c28 => absurd c28 (by decide))
  refine ev_go (pc' := 40) (ls' := [some (vR (some 1)), some (vI 6), some (vI a), some (vI b)]) (st' := [vI 3, vI 6]) (h1 := HS t m) 2 (by rfl) ?_
  refine ev_ic1 rfl rfl rfl (fun c40 => ?_) (fun c40 => absurd c40 (by decide))
  refine ev_go (pc' := 71) (ls' := [some (vR (some 1)), some (vI 6), some (vI a), some (vI b)]) (st' := [vI 4, vI 6]) (h1 := HS t m) 2 (by rfl) ?_
  refine ev_ic1 rfl rfl rfl (fun c71 => ?_) (fun c71 => absurd c71 (by decide))
  refine ev_go (pc' := 83) (ls' := [some (vR (some 1)), some (vI 6), some (vI a), some (vI b)]) (st' := [vI 5, vI 6]) (h1 := HS t m) 2 (by rfl) ?_
  refine ev_ic1 rfl rfl rfl (fun c83 => ?_) (fun c83 => absurd c83 (by decide))
  refine ev_go (pc' := 98) (ls' := [some (vR (some 1)), some (vI 6), some (vI a), some (vI b)]) (st' := [vI 6, vI 6]) (h1 := HS t m) 2 (by rfl) ?_
  refine ev_ic1 rfl rfl rfl (fun c98 => absurd c98 (by decide)) (fun c98 => ?_)
  refine ev_go (pc' := 103) (ls' := [some (vR (some 1)), some (vI 6), some (vI a), some (vI b)]) (st' := [vI a, vR (some 1)]) (h1 := HS t m) 2 (by rfl) ?_
  refine ev_call rfl rfl (Nat.le_of_ble_eq_true rfl) h hc ?_
  show Ev (PP L xs) _ 91 106 [some (vR (some 1)), some (vI 6), some (vI a), some (vI b)] [vI v] (HS t' m') _ _
  refine ev_go (pc' := 175) (ls' := [some (vR (some 1)), some (vI 6), some (vI a), some (vI b)]) (st' := [vI v]) (h1 := HS t' m') 1 (by rfl) ?_
  exact ev_retE rfl rfl (by first | rfl | (simp [*]; done) | (split <;> first | rfl | (exfalso; omega))) (by first | rfl | (simp [*]; done) | (split <;> first | rfl | (exfalso; omega)))
set_option maxRecDepth 10000 in
theorem cx_weight {L : Nat} {xs : Nat → Int32} {d : Nat} {t : Bool × Nat × Nat} {m : mMM} {a b : Int} {E : Nat} (h : Ev (PP L xs) d 69 0 (entL 2 [vR (some 1), vI a]) [] (HS t m) (.inr E) (HS (tt t) m)) : Ev (PP L xs) (d + 1) 91 0 (entL 4 [vR (some 1), vI 6, vI a, vI b]) [] (HS t m) (.inr E) (HS (tt t) m) := by
  refine ev_go (pc' := 1) (ls' := [some (vR (some 1)), some (vI 6), some (vI a), some (vI b)]) (st' := [vI 6]) (h1 := HS t m) 1 (by rfl) ?_
  refine ev_if1 rfl rfl (fun c1 => ?_) (fun c1 => absurd c1 (by decide))
  refine ev_go (pc' := 15) (ls' := [some (vR (some 1)), some (vI 6), some (vI a), some (vI b)]) (st' := [vI 1, vI 6]) (h1 := HS t m) 2 (by rfl) ?_
  refine ev_ic1 rfl rfl rfl (fun c15 => ?_) (fun c15 => absurd c15 (by decide))
  refine ev_go (pc' := 28) (ls' := [some (vR (some 1)), some (vI 6), some (vI a), some (vI b)]) (st' := [vI 2, vI 6]) (h1 := HS t m) 2 (by rfl) ?_
  refine ev_ic1 rfl rfl rfl (fun c28 => ?_) (fun c28 => absurd c28 (by decide))
  refine ev_go (pc' := 40) (ls' := [some (vR (some 1)), some (vI 6), some (vI a), some (vI b)]) (st' := [vI 3, vI 6]) (h1 := HS t m) 2 (by rfl) ?_
  refine ev_ic1 rfl rfl rfl (fun c40 => ?_) (fun c40 => absurd c40 (by decide))
  refine ev_go (pc' := 71) (ls' := [some (vR (some 1)), some (vI 6), some (vI a), some (vI b)]) (st' := [vI 4, vI 6]) (h1 := HS t m) 2 (by rfl) ?_
  refine ev_ic1 rfl rfl rfl (fun c71 => ?_) (fun c71 => absurd c71 (by decide))
  refine ev_go (pc' := 83) (ls' := [some (vR (some 1)), some (vI 6), some (vI a), some (vI b)]) (st' := [vI 5, vI 6]) (h1 := HS t m) 2 (by rfl) ?_
  refine ev_ic1 rfl rfl rfl (fun c83 => ?_) (fun c83 => absurd c83 (by decide))
  refine ev_go (pc' := 98) (ls' := [some (vR (some 1)), some (vI 6), some (vI a), some (vI b)]) (st' := [vI 6, vI 6]) (h1 := HS t m) 2 (by rfl) ?_
  refine ev_ic1 rfl rfl rfl (fun c98 => absurd c98 (by decide)) (fun c98 => ?_)
  refine ev_go (pc' := 103) (ls' := [some (vR (some 1)), some (vI 6), some (vI a), some (vI b)]) (st' := [vI a, vR (some 1)]) (h1 := HS t m) 2 (by rfl) ?_
  exact ev_callX rfl rfl (Nat.le_of_ble_eq_true rfl) h ⟨Nat.le_succ _, Nat.le_add_right _ _⟩ rfl
set_option maxRecDepth 10000 in
theorem ca_step {L : Nat} {xs : Nat → Int32} {d : Nat} {t t' : Bool × Nat × Nat} {m m' : mMM} {a b v : Int} (h : Ev (PP L xs) d 70 0 (entL 3 [vR (some 1), vI a, vI b]) [] (HS t m) (.inl (some (vI v))) (HS t' m')) (hc : t.2.1 ≤ t'.2.1 ∧ t.2.2 ≤ t'.2.2) : Ev (PP L xs) (d + 1) 91 0 (entL 4 [vR (some 1), vI 7, vI a, vI b]) [] (HS t m) (.inl (some (vI v))) (HS t' m') := by
  refine ev_go (pc' := 1) (ls' := [some (vR (some 1)), some (vI 7), some (vI a), some (vI b)]) (st' := [vI 7]) (h1 := HS t m) 1 (by rfl) ?_
  refine ev_if1 rfl rfl (fun c1 => ?_) (fun c1 => absurd c1 (by decide))
  refine ev_go (pc' := 15) (ls' := [some (vR (some 1)), some (vI 7), some (vI a), some (vI b)]) (st' := [vI 1, vI 7]) (h1 := HS t m) 2 (by rfl) ?_
  refine ev_ic1 rfl rfl rfl (fun c15 => ?_) (fun c15 => absurd c15 (by decide))
  refine ev_go (pc' := 28) (ls' := [some (vR (some 1)), some (vI 7), some (vI a), some (vI b)]) (st' := [vI 2, vI 7]) (h1 := HS t m) 2 (by rfl) ?_
  refine ev_ic1 rfl rfl rfl (fun c28 => ?_) (fun c28 => absurd c28 (by decide))
  refine ev_go (pc' := 40) (ls' := [some (vR (some 1)), some (vI 7), some (vI a), some (vI b)]) (st' := [vI 3, vI 7]) (h1 := HS t m) 2 (by rfl) ?_
  refine ev_ic1 rfl rfl rfl (fun c40 => ?_) (fun c40 => absurd c40 (by decide))
  refine ev_go (pc' := 71) (ls' := [some (vR (some 1)), some (vI 7), some (vI a), some (vI b)]) (st' := [vI 4, vI 7]) (h1 := HS t m) 2 (by rfl) ?_
  refine ev_ic1 rfl rfl rfl (fun c71 => ?_) (fun c71 => absurd c71 (by decide))
  refine ev_go (pc' := 83) (ls' := [some (vR (some 1)), some (vI 7), some (vI a), some (vI b)]) (st' := [vI 5, vI 7]) (h1 := HS t m) 2 (by rfl) ?_
  refine ev_ic1 rfl rfl rfl (fun c83 => ?_) (fun c83 => absurd c83 (by decide))
  refine ev_go (pc' := 98) (ls' := [some (vR (some 1)), some (vI 7), some (vI a), some (vI b)]) (st' := [vI 6, vI 7]) (h1 := HS t m) 2 (by rfl) ?_
  refine ev_ic1 rfl rfl rfl (fun c98 => ?_) (fun c98 => absurd c98 (by decide))
  refine ev_go (pc' := 112) (ls' := [some (vR (some 1)), some (vI 7), some (vI a), some (vI b)]) (st' := [vI 7, vI 7]) (h1 := HS t m) 2 (by rfl) ?_
  refine ev_ic1 rfl rfl rfl (fun c112 => absurd c112 (by decide)) (fun c112 => ?_)
  refine ev_go (pc' := 118) (ls' := [some (vR (some 1)), some (vI 7), some (vI a), some (vI b)]) (st' := [vI b, vI a, vR (some 1)]) (h1 := HS t m) 3 (by rfl) ?_
  refine ev_call rfl rfl (Nat.le_of_ble_eq_true rfl) h hc ?_
  show Ev (PP L xs) _ 91 121 [some (vR (some 1)), some (vI 7), some (vI a), some (vI b)] [vI v] (HS t' m') _ _
  refine ev_go (pc' := 175) (ls' := [some (vR (some 1)), some (vI 7), some (vI a), some (vI b)]) (st' := [vI v]) (h1 := HS t' m') 1 (by rfl) ?_
  exact ev_retE rfl rfl (by first | rfl | (simp [*]; done) | (split <;> first | rfl | (exfalso; omega))) (by first | rfl | (simp [*]; done) | (split <;> first | rfl | (exfalso; omega)))
set_option maxRecDepth 10000 in
theorem cx_step {L : Nat} {xs : Nat → Int32} {d : Nat} {t : Bool × Nat × Nat} {m : mMM} {a b : Int} {E : Nat} (h : Ev (PP L xs) d 70 0 (entL 3 [vR (some 1), vI a, vI b]) [] (HS t m) (.inr E) (HS (tt t) m)) : Ev (PP L xs) (d + 1) 91 0 (entL 4 [vR (some 1), vI 7, vI a, vI b]) [] (HS t m) (.inr E) (HS (tt t) m) := by
  refine ev_go (pc' := 1) (ls' := [some (vR (some 1)), some (vI 7), some (vI a), some (vI b)]) (st' := [vI 7]) (h1 := HS t m) 1 (by rfl) ?_
  refine ev_if1 rfl rfl (fun c1 => ?_) (fun c1 => absurd c1 (by decide))
  refine ev_go (pc' := 15) (ls' := [some (vR (some 1)), some (vI 7), some (vI a), some (vI b)]) (st' := [vI 1, vI 7]) (h1 := HS t m) 2 (by rfl) ?_
  refine ev_ic1 rfl rfl rfl (fun c15 => ?_) (fun c15 => absurd c15 (by decide))
  refine ev_go (pc' := 28) (ls' := [some (vR (some 1)), some (vI 7), some (vI a), some (vI b)]) (st' := [vI 2, vI 7]) (h1 := HS t m) 2 (by rfl) ?_
  refine ev_ic1 rfl rfl rfl (fun c28 => ?_) (fun c28 => absurd c28 (by decide))
  refine ev_go (pc' := 40) (ls' := [some (vR (some 1)), some (vI 7), some (vI a), some (vI b)]) (st' := [vI 3, vI 7]) (h1 := HS t m) 2 (by rfl) ?_
  refine ev_ic1 rfl rfl rfl (fun c40 => ?_) (fun c40 => absurd c40 (by decide))
  refine ev_go (pc' := 71) (ls' := [some (vR (some 1)), some (vI 7), some (vI a), some (vI b)]) (st' := [vI 4, vI 7]) (h1 := HS t m) 2 (by rfl) ?_
  refine ev_ic1 rfl rfl rfl (fun c71 => ?_) (fun c71 => absurd c71 (by decide))
  refine ev_go (pc' := 83) (ls' := [some (vR (some 1)), some (vI 7), some (vI a), some (vI b)]) (st' := [vI 5, vI 7]) (h1 := HS t m) 2 (by rfl) ?_
  refine ev_ic1 rfl rfl rfl (fun c83 => ?_) (fun c83 => absurd c83 (by decide))
  refine ev_go (pc' := 98) (ls' := [some (vR (some 1)), some (vI 7), some (vI a), some (vI b)]) (st' := [vI 6, vI 7]) (h1 := HS t m) 2 (by rfl) ?_
  refine ev_ic1 rfl rfl rfl (fun c98 => ?_) (fun c98 => absurd c98 (by decide))
  refine ev_go (pc' := 112) (ls' := [some (vR (some 1)), some (vI 7), some (vI a), some (vI b)]) (st' := [vI 7, vI 7]) (h1 := HS t m) 2 (by rfl) ?_
  refine ev_ic1 rfl rfl rfl (fun c112 => absurd c112 (by decide)) (fun c112 => ?_)
  refine ev_go (pc' := 118) (ls' := [some (vR (some 1)), some (vI 7), some (vI a), some (vI b)]) (st' := [vI b, vI a, vR (some 1)]) (h1 := HS t m) 3 (by rfl) ?_
  exact ev_callX rfl rfl (Nat.le_of_ble_eq_true rfl) h ⟨Nat.le_succ _, Nat.le_add_right _ _⟩ rfl
set_option maxRecDepth 10000 in
theorem ca_path {L : Nat} {xs : Nat → Int32} {d : Nat} {t t' : Bool × Nat × Nat} {m m' : mMM} {a b v : Int} (h : Ev (PP L xs) d 71 0 (entL 3 [vR (some 1), vI a, vI b]) [] (HS t m) (.inl (some (vI v))) (HS t' m')) (hc : t.2.1 ≤ t'.2.1 ∧ t.2.2 ≤ t'.2.2) : Ev (PP L xs) (d + 1) 91 0 (entL 4 [vR (some 1), vI 8, vI a, vI b]) [] (HS t m) (.inl (some (vI v))) (HS t' m') := by
  refine ev_go (pc' := 1) (ls' := [some (vR (some 1)), some (vI 8), some (vI a), some (vI b)]) (st' := [vI 8]) (h1 := HS t m) 1 (by rfl) ?_
  refine ev_if1 rfl rfl (fun c1 => ?_) (fun c1 => absurd c1 (by decide))
  refine ev_go (pc' := 15) (ls' := [some (vR (some 1)), some (vI 8), some (vI a), some (vI b)]) (st' := [vI 1, vI 8]) (h1 := HS t m) 2 (by rfl) ?_
  refine ev_ic1 rfl rfl rfl (fun c15 => ?_) (fun c15 => absurd c15 (by decide))
  refine ev_go (pc' := 28) (ls' := [some (vR (some 1)), some (vI 8), some (vI a), some (vI b)]) (st' := [vI 2, vI 8]) (h1 := HS t m) 2 (by rfl) ?_
  refine ev_ic1 rfl rfl rfl (fun c28 => ?_) (fun c28 => absurd c28 (by decide))
  refine ev_go (pc' := 40) (ls' := [some (vR (some 1)), some (vI 8), some (vI a), some (vI b)]) (st' := [vI 3, vI 8]) (h1 := HS t m) 2 (by rfl) ?_
  refine ev_ic1 rfl rfl rfl (fun c40 => ?_) (fun c40 => absurd c40 (by decide))
  refine ev_go (pc' := 71) (ls' := [some (vR (some 1)), some (vI 8), some (vI a), some (vI b)]) (st' := [vI 4, vI 8]) (h1 := HS t m) 2 (by rfl) ?_
  refine ev_ic1 rfl rfl rfl (fun c71 => ?_) (fun c71 => absurd c71 (by decide))
  refine ev_go (pc' := 83) (ls' := [some (vR (some 1)), some (vI 8), some (vI a), some (vI b)]) (st' := [vI 5, vI 8]) (h1 := HS t m) 2 (by rfl) ?_
  refine ev_ic1 rfl rfl rfl (fun c83 => ?_) (fun c83 => absurd c83 (by decide))
  refine ev_go (pc' := 98) (ls' := [some (vR (some 1)), some (vI 8), some (vI a), some (vI b)]) (st' := [vI 6, vI 8]) (h1 := HS t m) 2 (by rfl) ?_
  refine ev_ic1 rfl rfl rfl (fun c98 => ?_) (fun c98 => absurd c98 (by decide))
  refine ev_go (pc' := 112) (ls' := [some (vR (some 1)), some (vI 8), some (vI a), some (vI b)]) (st' := [vI 7, vI 8]) (h1 := HS t m) 2 (by rfl) ?_
  refine ev_ic1 rfl rfl rfl (fun c112 => ?_) (fun c112 => absurd c112 (by decide))
  refine ev_go (pc' := 127) (ls' := [some (vR (some 1)), some (vI 8), some (vI a), some (vI b)]) (st' := [vI 8, vI 8]) (h1 := HS t m) 2 (by rfl) ?_
  refine ev_ic1 rfl rfl rfl (fun c127 => absurd c127 (by decide)) (fun c127 => ?_)
  refine ev_go (pc' := 133) (ls' := [some (vR (some 1)), some (vI 8), some (vI a), some (vI b)]) (st' := [vI b, vI a, vR (some 1)]) (h1 := HS t m) 3 (by rfl) ?_
  refine ev_call rfl rfl (Nat.le_of_ble_eq_true rfl) h hc ?_
  show Ev (PP L xs) _ 91 136 [some (vR (some 1)), some (vI 8), some (vI a), some (vI b)] [vI v] (HS t' m') _ _
  refine ev_go (pc' := 175) (ls' := [some (vR (some 1)), some (vI 8), some (vI a), some (vI b)]) (st' := [vI v]) (h1 := HS t' m') 1 (by rfl) ?_
  exact ev_retE rfl rfl (by first | rfl | (simp [*]; done) | (split <;> first | rfl | (exfalso; omega))) (by first | rfl | (simp [*]; done) | (split <;> first | rfl | (exfalso; omega)))
set_option maxRecDepth 10000 in
theorem cx_path {L : Nat} {xs : Nat → Int32} {d : Nat} {t : Bool × Nat × Nat} {m : mMM} {a b : Int} {E : Nat} (h : Ev (PP L xs) d 71 0 (entL 3 [vR (some 1), vI a, vI b]) [] (HS t m) (.inr E) (HS (tt t) m)) : Ev (PP L xs) (d + 1) 91 0 (entL 4 [vR (some 1), vI 8, vI a, vI b]) [] (HS t m) (.inr E) (HS (tt t) m) := by
  refine ev_go (pc' := 1) (ls' := [some (vR (some 1)), some (vI 8), some (vI a), some (vI b)]) (st' := [vI 8]) (h1 := HS t m) 1 (by rfl) ?_
  refine ev_if1 rfl rfl (fun c1 => ?_) (fun c1 => absurd c1 (by decide))
  refine ev_go (pc' := 15) (ls' := [some (vR (some 1)), some (vI 8), some (vI a), some (vI b)]) (st' := [vI 1, vI 8]) (h1 := HS t m) 2 (by rfl) ?_
  refine ev_ic1 rfl rfl rfl (fun c15 => ?_) (fun c15 => absurd c15 (by decide))
  refine ev_go (pc' := 28) (ls' := [some (vR (some 1)), some (vI 8), some (vI a), some (vI b)]) (st' := [vI 2, vI 8]) (h1 := HS t m) 2 (by rfl) ?_
  refine ev_ic1 rfl rfl rfl (fun c28 => ?_) (fun c28 => absurd c28 (by decide))
  refine ev_go (pc' := 40) (ls' := [some (vR (some 1)), some (vI 8), some (vI a), some (vI b)]) (st' := [vI 3, vI 8]) (h1 := HS t m) 2 (by rfl) ?_
  refine ev_ic1 rfl rfl rfl (fun c40 => ?_) (fun c40 => absurd c40 (by decide))
  refine ev_go (pc' := 71) (ls' := [some (vR (some 1)), some (vI 8), some (vI a), some (vI b)]) (st' := [vI 4, vI 8]) (h1 := HS t m) 2 (by rfl) ?_
  refine ev_ic1 rfl rfl rfl (fun c71 => ?_) (fun c71 => absurd c71 (by decide))
  refine ev_go (pc' := 83) (ls' := [some (vR (some 1)), some (vI 8), some (vI a), some (vI b)]) (st' := [vI 5, vI 8]) (h1 := HS t m) 2 (by rfl) ?_
  refine ev_ic1 rfl rfl rfl (fun c83 => ?_) (fun c83 => absurd c83 (by decide))
  refine ev_go (pc' := 98) (ls' := [some (vR (some 1)), some (vI 8), some (vI a), some (vI b)]) (st' := [vI 6, vI 8]) (h1 := HS t m) 2 (by rfl) ?_
  refine ev_ic1 rfl rfl rfl (fun c98 => ?_) (fun c98 => absurd c98 (by decide))
  refine ev_go (pc' := 112) (ls' := [some (vR (some 1)), some (vI 8), some (vI a), some (vI b)]) (st' := [vI 7, vI 8]) (h1 := HS t m) 2 (by rfl) ?_
  refine ev_ic1 rfl rfl rfl (fun c112 => ?_) (fun c112 => absurd c112 (by decide))
  refine ev_go (pc' := 127) (ls' := [some (vR (some 1)), some (vI 8), some (vI a), some (vI b)]) (st' := [vI 8, vI 8]) (h1 := HS t m) 2 (by rfl) ?_
  refine ev_ic1 rfl rfl rfl (fun c127 => absurd c127 (by decide)) (fun c127 => ?_)
  refine ev_go (pc' := 133) (ls' := [some (vR (some 1)), some (vI 8), some (vI a), some (vI b)]) (st' := [vI b, vI a, vR (some 1)]) (h1 := HS t m) 3 (by rfl) ?_
  exact ev_callX rfl rfl (Nat.le_of_ble_eq_true rfl) h ⟨Nat.le_succ _, Nat.le_add_right _ _⟩ rfl
set_option maxRecDepth 10000 in
theorem ca_pathAnew {L : Nat} {xs : Nat → Int32} {d : Nat} {t t' : Bool × Nat × Nat} {m m' : mMM} {a b v : Int} (h : Ev (PP L xs) d 72 0 (entL 3 [vR (some 1), vI a, vI b]) [] (HS t m) (.inl (some (vI v))) (HS t' m')) (hc : t.2.1 ≤ t'.2.1 ∧ t.2.2 ≤ t'.2.2) : Ev (PP L xs) (d + 1) 91 0 (entL 4 [vR (some 1), vI 9, vI a, vI b]) [] (HS t m) (.inl (some (vI v))) (HS t' m') := by
  refine ev_go (pc' := 1) (ls' := [some (vR (some 1)), some (vI 9), some (vI a), some (vI b)]) (st' := [vI 9]) (h1 := HS t m) 1 (by rfl) ?_
  refine ev_if1 rfl rfl (fun c1 => ?_) (fun c1 => absurd c1 (by decide))
  refine ev_go (pc' := 15) (ls' := [some (vR (some 1)), some (vI 9), some (vI a), some (vI b)]) (st' := [vI 1, vI 9]) (h1 := HS t m) 2 (by rfl) ?_
  refine ev_ic1 rfl rfl rfl (fun c15 => ?_) (fun c15 => absurd c15 (by decide))
  refine ev_go (pc' := 28) (ls' := [some (vR (some 1)), some (vI 9), some (vI a), some (vI b)]) (st' := [vI 2, vI 9]) (h1 := HS t m) 2 (by rfl) ?_
  refine ev_ic1 rfl rfl rfl (fun c28 => ?_) (fun c28 => absurd c28 (by decide))
  refine ev_go (pc' := 40) (ls' := [some (vR (some 1)), some (vI 9), some (vI a), some (vI b)]) (st' := [vI 3, vI 9]) (h1 := HS t m) 2 (by rfl) ?_
  refine ev_ic1 rfl rfl rfl (fun c40 => ?_) (fun c40 => absurd c40 (by decide))
  refine ev_go (pc' := 71) (ls' := [some (vR (some 1)), some (vI 9), some (vI a), some (vI b)]) (st' := [vI 4, vI 9]) (h1 := HS t m) 2 (by rfl) ?_
  refine ev_ic1 rfl rfl rfl (fun c71 => ?_) (fun c71 => absurd c71 (by decide))
  refine ev_go (pc' := 83) (ls' := [some (vR (some 1)), some (vI 9), some (vI a), some (vI b)]) (st' := [vI 5, vI 9]) (h1 := HS t m) 2 (by rfl) ?_
  refine ev_ic1 rfl rfl rfl (fun c83 => ?_) (fun c83 => absurd c83 (by decide))
  refine ev_go (pc' := 98) (ls' := [some (vR (some 1)), some (vI 9), some (vI a), some (vI b)]) (st' := [vI 6, vI 9]) (h1 := HS t m) 2 (by rfl) ?_
  refine ev_ic1 rfl rfl rfl (fun c98 => ?_) (fun c98 => absurd c98 (by decide))
  refine ev_go (pc' := 112) (ls' := [some (vR (some 1)), some (vI 9), some (vI a), some (vI b)]) (st' := [vI 7, vI 9]) (h1 := HS t m) 2 (by rfl) ?_
  refine ev_ic1 rfl rfl rfl (fun c112 => ?_) (fun c112 => absurd c112 (by decide))
  refine ev_go (pc' := 127) (ls' := [some (vR (some 1)), some (vI 9), some (vI a), some (vI b)]) (st' := [vI 8, vI 9]) (h1 := HS t m) 2 (by rfl) ?_
  refine ev_ic1 rfl rfl rfl (fun c127 => ?_) (fun c127 => absurd c127 (by decide))
  refine ev_go (pc' := 142) (ls' := [some (vR (some 1)), some (vI 9), some (vI a), some (vI b)]) (st' := [vI 9, vI 9]) (h1 := HS t m) 2 (by rfl) ?_
  refine ev_ic1 rfl rfl rfl (fun c142 => absurd c142 (by decide)) (fun c142 => ?_)
  refine ev_go (pc' := 148) (ls' := [some (vR (some 1)), some (vI 9), some (vI a), some (vI b)]) (st' := [vI b, vI a, vR (some 1)]) (h1 := HS t m) 3 (by rfl) ?_
  refine ev_call rfl rfl (Nat.le_of_ble_eq_true rfl) h hc ?_
  show Ev (PP L xs) _ 91 151 [some (vR (some 1)), some (vI 9), some (vI a), some (vI b)] [vI v] (HS t' m') _ _
  refine ev_go (pc' := 175) (ls' := [some (vR (some 1)), some (vI 9), some (vI a), some (vI b)]) (st' := [vI v]) (h1 := HS t' m') 1 (by rfl) ?_
  exact ev_retE rfl rfl (by first | rfl | (simp [*]; done) | (split <;> first | rfl | (exfalso; omega))) (by first | rfl | (simp [*]; done) | (split <;> first | rfl | (exfalso; omega)))
set_option maxRecDepth 10000 in
theorem cx_pathAnew {L : Nat} {xs : Nat → Int32} {d : Nat} {t : Bool × Nat × Nat} {m : mMM} {a b : Int} {E : Nat} (h : Ev (PP L xs) d 72 0 (entL 3 [vR (some 1), vI a, vI b]) [] (HS t m) (.inr E) (HS (tt t) m)) : Ev (PP L xs) (d + 1) 91 0 (entL 4 [vR (some 1), vI 9, vI a, vI b]) [] (HS t m) (.inr E) (HS (tt t) m) := by
  refine ev_go (pc' := 1) (ls' := [some (vR (some 1)), some (vI 9), some (vI a), some (vI b)]) (st' := [vI 9]) (h1 := HS t m) 1 (by rfl) ?_
  refine ev_if1 rfl rfl (fun c1 => ?_) (fun c1 => absurd c1 (by decide))
  refine ev_go (pc' := 15) (ls' := [some (vR (some 1)), some (vI 9), some (vI a), some (vI b)]) (st' := [vI 1, vI 9]) (h1 := HS t m) 2 (by rfl) ?_
  refine ev_ic1 rfl rfl rfl (fun c15 => ?_) (fun c15 => absurd c15 (by decide))
  refine ev_go (pc' := 28) (ls' := [some (vR (some 1)), some (vI 9), some (vI a), some (vI b)]) (st' := [vI 2, vI 9]) (h1 := HS t m) 2 (by rfl) ?_
  refine ev_ic1 rfl rfl rfl (fun c28 => ?_) (fun c28 => absurd c28 (by decide))
  refine ev_go (pc' := 40) (ls' := [some (vR (some 1)), some (vI 9), some (vI a), some (vI b)]) (st' := [vI 3, vI 9]) (h1 := HS t m) 2 (by rfl) ?_
  refine ev_ic1 rfl rfl rfl (fun c40 => ?_) (fun c40 => absurd c40 (by decide))
  refine ev_go (pc' := 71) (ls' := [some (vR (some 1)), some (vI 9), some (vI a), some (vI b)]) (st' := [vI 4, vI 9]) (h1 := HS t m) 2 (by rfl) ?_
  refine ev_ic1 rfl rfl rfl (fun c71 => ?_) (fun c71 => absurd c71 (by decide))
  refine ev_go (pc' := 83) (ls' := [some (vR (some 1)), some (vI 9), some (vI a), some (vI b)]) (st' := [vI 5, vI 9]) (h1 := HS t m) 2 (by rfl) ?_
  refine ev_ic1 rfl rfl rfl (fun c83 => ?_) (fun c83 => absurd c83 (by decide))
  refine ev_go (pc' := 98) (ls' := [some (vR (some 1)), some (vI 9), some (vI a), some (vI b)]) (st' := [vI 6, vI 9]) (h1 := HS t m) 2 (by rfl) ?_
  refine ev_ic1 rfl rfl rfl (fun c98 => ?_) (fun c98 => absurd c98 (by decide))
  refine ev_go (pc' := 112) (ls' := [some (vR (some 1)), some (vI 9), some (vI a), some (vI b)]) (st' := [vI 7, vI 9]) (h1 := HS t m) 2 (by rfl) ?_
  refine ev_ic1 rfl rfl rfl (fun c112 => ?_) (fun c112 => absurd c112 (by decide))
  refine ev_go (pc' := 127) (ls' := [some (vR (some 1)), some (vI 9), some (vI a), some (vI b)]) (st' := [vI 8, vI 9]) (h1 := HS t m) 2 (by rfl) ?_
  refine ev_ic1 rfl rfl rfl (fun c127 => ?_) (fun c127 => absurd c127 (by decide))
  refine ev_go (pc' := 142) (ls' := [some (vR (some 1)), some (vI 9), some (vI a), some (vI b)]) (st' := [vI 9, vI 9]) (h1 := HS t m) 2 (by rfl) ?_
  refine ev_ic1 rfl rfl rfl (fun c142 => absurd c142 (by decide)) (fun c142 => ?_)
  refine ev_go (pc' := 148) (ls' := [some (vR (some 1)), some (vI 9), some (vI a), some (vI b)]) (st' := [vI b, vI a, vR (some 1)]) (h1 := HS t m) 3 (by rfl) ?_
  exact ev_callX rfl rfl (Nat.le_of_ble_eq_true rfl) h ⟨Nat.le_succ _, Nat.le_add_right _ _⟩ rfl
set_option maxRecDepth 10000 in
theorem ca_share {L : Nat} {xs : Nat → Int32} {d : Nat} {t t' : Bool × Nat × Nat} {m m' : mMM} {a b v : Int} (h : Ev (PP L xs) d 75 0 (entL 3 [vR (some 1), vI a, vI b]) [] (HS t m) (.inl (some (vI v))) (HS t' m')) (hc : t.2.1 ≤ t'.2.1 ∧ t.2.2 ≤ t'.2.2) : Ev (PP L xs) (d + 1) 91 0 (entL 4 [vR (some 1), vI 10, vI a, vI b]) [] (HS t m) (.inl (some (vI v))) (HS t' m') := by
  refine ev_go (pc' := 1) (ls' := [some (vR (some 1)), some (vI 10), some (vI a), some (vI b)]) (st' := [vI 10]) (h1 := HS t m) 1 (by rfl) ?_
  refine ev_if1 rfl rfl (fun c1 => ?_) (fun c1 => absurd c1 (by decide))
  refine ev_go (pc' := 15) (ls' := [some (vR (some 1)), some (vI 10), some (vI a), some (vI b)]) (st' := [vI 1, vI 10]) (h1 := HS t m) 2 (by rfl) ?_
  refine ev_ic1 rfl rfl rfl (fun c15 => ?_) (fun c15 => absurd c15 (by decide))
  refine ev_go (pc' := 28) (ls' := [some (vR (some 1)), some (vI 10), some (vI a), some (vI b)]) (st' := [vI 2, vI 10]) (h1 := HS t m) 2 (by rfl) ?_
  refine ev_ic1 rfl rfl rfl (fun c28 => ?_) (fun c28 => absurd c28 (by decide))
  refine ev_go (pc' := 40) (ls' := [some (vR (some 1)), some (vI 10), some (vI a), some (vI b)]) (st' := [vI 3, vI 10]) (h1 := HS t m) 2 (by rfl) ?_
  refine ev_ic1 rfl rfl rfl (fun c40 => ?_) (fun c40 => absurd c40 (by decide))
  refine ev_go (pc' := 71) (ls' := [some (vR (some 1)), some (vI 10), some (vI a), some (vI b)]) (st' := [vI 4, vI 10]) (h1 := HS t m) 2 (by rfl) ?_
  refine ev_ic1 rfl rfl rfl (fun c71 => ?_) (fun c71 => absurd c71 (by decide))
  refine ev_go (pc' := 83) (ls' := [some (vR (some 1)), some (vI 10), some (vI a), some (vI b)]) (st' := [vI 5, vI 10]) (h1 := HS t m) 2 (by rfl) ?_
  refine ev_ic1 rfl rfl rfl (fun c83 => ?_) (fun c83 => absurd c83 (by decide))
  refine ev_go (pc' := 98) (ls' := [some (vR (some 1)), some (vI 10), some (vI a), some (vI b)]) (st' := [vI 6, vI 10]) (h1 := HS t m) 2 (by rfl) ?_
  refine ev_ic1 rfl rfl rfl (fun c98 => ?_) (fun c98 => absurd c98 (by decide))
  refine ev_go (pc' := 112) (ls' := [some (vR (some 1)), some (vI 10), some (vI a), some (vI b)]) (st' := [vI 7, vI 10]) (h1 := HS t m) 2 (by rfl) ?_
  refine ev_ic1 rfl rfl rfl (fun c112 => ?_) (fun c112 => absurd c112 (by decide))
  refine ev_go (pc' := 127) (ls' := [some (vR (some 1)), some (vI 10), some (vI a), some (vI b)]) (st' := [vI 8, vI 10]) (h1 := HS t m) 2 (by rfl) ?_
  refine ev_ic1 rfl rfl rfl (fun c127 => ?_) (fun c127 => absurd c127 (by decide))
  refine ev_go (pc' := 142) (ls' := [some (vR (some 1)), some (vI 10), some (vI a), some (vI b)]) (st' := [vI 9, vI 10]) (h1 := HS t m) 2 (by rfl) ?_
  refine ev_ic1 rfl rfl rfl (fun c142 => ?_) (fun c142 => absurd c142 (by decide))
  refine ev_go (pc' := 157) (ls' := [some (vR (some 1)), some (vI 10), some (vI a), some (vI b)]) (st' := [vI 10, vI 10]) (h1 := HS t m) 2 (by rfl) ?_
  refine ev_ic1 rfl rfl rfl (fun c157 => absurd c157 (by decide)) (fun c157 => ?_)
  refine ev_go (pc' := 163) (ls' := [some (vR (some 1)), some (vI 10), some (vI a), some (vI b)]) (st' := [vI b, vI a, vR (some 1)]) (h1 := HS t m) 3 (by rfl) ?_
  refine ev_call rfl rfl (Nat.le_of_ble_eq_true rfl) h hc ?_
  show Ev (PP L xs) _ 91 166 [some (vR (some 1)), some (vI 10), some (vI a), some (vI b)] [vI v] (HS t' m') _ _
  refine ev_go (pc' := 175) (ls' := [some (vR (some 1)), some (vI 10), some (vI a), some (vI b)]) (st' := [vI v]) (h1 := HS t' m') 1 (by rfl) ?_
  exact ev_retE rfl rfl (by first | rfl | (simp [*]; done) | (split <;> first | rfl | (exfalso; omega))) (by first | rfl | (simp [*]; done) | (split <;> first | rfl | (exfalso; omega)))
set_option maxRecDepth 10000 in
theorem cx_share {L : Nat} {xs : Nat → Int32} {d : Nat} {t : Bool × Nat × Nat} {m : mMM} {a b : Int} {E : Nat} (h : Ev (PP L xs) d 75 0 (entL 3 [vR (some 1), vI a, vI b]) [] (HS t m) (.inr E) (HS (tt t) m)) : Ev (PP L xs) (d + 1) 91 0 (entL 4 [vR (some 1), vI 10, vI a, vI b]) [] (HS t m) (.inr E) (HS (tt t) m) := by
  refine ev_go (pc' := 1) (ls' := [some (vR (some 1)), some (vI 10), some (vI a), some (vI b)]) (st' := [vI 10]) (h1 := HS t m) 1 (by rfl) ?_
  refine ev_if1 rfl rfl (fun c1 => ?_) (fun c1 => absurd c1 (by decide))
  refine ev_go (pc' := 15) (ls' := [some (vR (some 1)), some (vI 10), some (vI a), some (vI b)]) (st' := [vI 1, vI 10]) (h1 := HS t m) 2 (by rfl) ?_
  refine ev_ic1 rfl rfl rfl (fun c15 => ?_) (fun c15 => absurd c15 (by decide))
  refine ev_go (pc' := 28) (ls' := [some (vR (some 1)), some (vI 10), some (vI a), some (vI b)]) (st' := [vI 2, vI 10]) (h1 := HS t m) 2 (by rfl) ?_
  refine ev_ic1 rfl rfl rfl (fun c28 => ?_) (fun c28 => absurd c28 (by decide))
  refine ev_go (pc' := 40) (ls' := [some (vR (some 1)), some (vI 10), some (vI a), some (vI b)]) (st' := [vI 3, vI 10]) (h1 := HS t m) 2 (by rfl) ?_
  refine ev_ic1 rfl rfl rfl (fun c40 => ?_) (fun c40 => absurd c40 (by decide))
  refine ev_go (pc' := 71) (ls' := [some (vR (some 1)), some (vI 10), some (vI a), some (vI b)]) (st' := [vI 4, vI 10]) (h1 := HS t m) 2 (by rfl) ?_
  refine ev_ic1 rfl rfl rfl (fun c71 => ?_) (fun c71 => absurd c71 (by decide))
  refine ev_go (pc' := 83) (ls' := [some (vR (some 1)), some (vI 10), some (vI a), some (vI b)]) (st' := [vI 5, vI 10]) (h1 := HS t m) 2 (by rfl) ?_
  refine ev_ic1 rfl rfl rfl (fun c83 => ?_) (fun c83 => absurd c83 (by decide))
  refine ev_go (pc' := 98) (ls' := [some (vR (some 1)), some (vI 10), some (vI a), some (vI b)]) (st' := [vI 6, vI 10]) (h1 := HS t m) 2 (by rfl) ?_
  refine ev_ic1 rfl rfl rfl (fun c98 => ?_) (fun c98 => absurd c98 (by decide))
  refine ev_go (pc' := 112) (ls' := [some (vR (some 1)), some (vI 10), some (vI a), some (vI b)]) (st' := [vI 7, vI 10]) (h1 := HS t m) 2 (by rfl) ?_
  refine ev_ic1 rfl rfl rfl (fun c112 => ?_) (fun c112 => absurd c112 (by decide))
  refine ev_go (pc' := 127) (ls' := [some (vR (some 1)), some (vI 10), some (vI a), some (vI b)]) (st' := [vI 8, vI 10]) (h1 := HS t m) 2 (by rfl) ?_
  refine ev_ic1 rfl rfl rfl (fun c127 => ?_) (fun c127 => absurd c127 (by decide))
  refine ev_go (pc' := 142) (ls' := [some (vR (some 1)), some (vI 10), some (vI a), some (vI b)]) (st' := [vI 9, vI 10]) (h1 := HS t m) 2 (by rfl) ?_
  refine ev_ic1 rfl rfl rfl (fun c142 => ?_) (fun c142 => absurd c142 (by decide))
  refine ev_go (pc' := 157) (ls' := [some (vR (some 1)), some (vI 10), some (vI a), some (vI b)]) (st' := [vI 10, vI 10]) (h1 := HS t m) 2 (by rfl) ?_
  refine ev_ic1 rfl rfl rfl (fun c157 => absurd c157 (by decide)) (fun c157 => ?_)
  refine ev_go (pc' := 163) (ls' := [some (vR (some 1)), some (vI 10), some (vI a), some (vI b)]) (st' := [vI b, vI a, vR (some 1)]) (h1 := HS t m) 3 (by rfl) ?_
  exact ev_callX rfl rfl (Nat.le_of_ble_eq_true rfl) h ⟨Nat.le_succ _, Nat.le_add_right _ _⟩ rfl
set_option maxRecDepth 10000 in
theorem ca_shareAnew {L : Nat} {xs : Nat → Int32} {d : Nat} {t t' : Bool × Nat × Nat} {m m' : mMM} {a b v : Int} (h : Ev (PP L xs) d 76 0 (entL 3 [vR (some 1), vI a, vI b]) [] (HS t m) (.inl (some (vI v))) (HS t' m')) (hc : t.2.1 ≤ t'.2.1 ∧ t.2.2 ≤ t'.2.2) : Ev (PP L xs) (d + 1) 91 0 (entL 4 [vR (some 1), vI 11, vI a, vI b]) [] (HS t m) (.inl (some (vI v))) (HS t' m') := by
  refine ev_go (pc' := 1) (ls' := [some (vR (some 1)), some (vI 11), some (vI a), some (vI b)]) (st' := [vI 11]) (h1 := HS t m) 1 (by rfl) ?_
  refine ev_if1 rfl rfl (fun c1 => ?_) (fun c1 => absurd c1 (by decide))
  refine ev_go (pc' := 15) (ls' := [some (vR (some 1)), some (vI 11), some (vI a), some (vI b)]) (st' := [vI 1, vI 11]) (h1 := HS t m) 2 (by rfl) ?_
  refine ev_ic1 rfl rfl rfl (fun c15 => ?_) (fun c15 => absurd c15 (by decide))
  refine ev_go (pc' := 28) (ls' := [some (vR (some 1)), some (vI 11), some (vI a), some (vI b)]) (st' := [vI 2, vI 11]) (h1 := HS t m) 2 (by rfl) ?_
  refine ev_ic1 rfl rfl rfl (fun c28 => ?_) (fun c28 => absurd c28 (by decide))
  refine ev_go (pc' := 40) (ls' := [some (vR (some 1)), some (vI 11), some (vI a), some (vI b)]) (st' := [vI 3, vI 11]) (h1 := HS t m) 2 (by rfl) ?_
  refine ev_ic1 rfl rfl rfl (fun c40 => ?_) (fun c40 => absurd c40 (by decide))
  refine ev_go (pc' := 71) (ls' := [some (vR (some 1)), some (vI 11), some (vI a), some (vI b)]) (st' := [vI 4, vI 11]) (h1 := HS t m) 2 (by rfl) ?_
  refine ev_ic1 rfl rfl rfl (fun c71 => ?_) (fun c71 => absurd c71 (by decide))
  refine ev_go (pc' := 83) (ls' := [some (vR (some 1)), some (vI 11), some (vI a), some (vI b)]) (st' := [vI 5, vI 11]) (h1 := HS t m) 2 (by rfl) ?_
  refine ev_ic1 rfl rfl rfl (fun c83 => ?_) (fun c83 => absurd c83 (by decide))
  refine ev_go (pc' := 98) (ls' := [some (vR (some 1)), some (vI 11), some (vI a), some (vI b)]) (st' := [vI 6, vI 11]) (h1 := HS t m) 2 (by rfl) ?_
  refine ev_ic1 rfl rfl rfl (fun c98 => ?_) (fun c98 => absurd c98 (by decide))
  refine ev_go (pc' := 112) (ls' := [some (vR (some 1)), some (vI 11), some (vI a), some (vI b)]) (st' := [vI 7, vI 11]) (h1 := HS t m) 2 (by rfl) ?_
  refine ev_ic1 rfl rfl rfl (fun c112 => ?_) (fun c112 => absurd c112 (by decide))
  refine ev_go (pc' := 127) (ls' := [some (vR (some 1)), some (vI 11), some (vI a), some (vI b)]) (st' := [vI 8, vI 11]) (h1 := HS t m) 2 (by rfl) ?_
  refine ev_ic1 rfl rfl rfl (fun c127 => ?_) (fun c127 => absurd c127 (by decide))
  refine ev_go (pc' := 142) (ls' := [some (vR (some 1)), some (vI 11), some (vI a), some (vI b)]) (st' := [vI 9, vI 11]) (h1 := HS t m) 2 (by rfl) ?_
  refine ev_ic1 rfl rfl rfl (fun c142 => ?_) (fun c142 => absurd c142 (by decide))
  refine ev_go (pc' := 157) (ls' := [some (vR (some 1)), some (vI 11), some (vI a), some (vI b)]) (st' := [vI 10, vI 11]) (h1 := HS t m) 2 (by rfl) ?_
  refine ev_ic1 rfl rfl rfl (fun c157 => ?_) (fun c157 => absurd c157 (by decide))
  refine ev_go (pc' := 172) (ls' := [some (vR (some 1)), some (vI 11), some (vI a), some (vI b)]) (st' := [vI b, vI a, vR (some 1)]) (h1 := HS t m) 3 (by rfl) ?_
  refine ev_call rfl rfl (Nat.le_of_ble_eq_true rfl) h hc ?_
  show Ev (PP L xs) _ 91 175 [some (vR (some 1)), some (vI 11), some (vI a), some (vI b)] [vI v] (HS t' m') _ _
  exact ev_retE rfl rfl (by first | rfl | (simp [*]; done) | (split <;> first | rfl | (exfalso; omega))) (by first | rfl | (simp [*]; done) | (split <;> first | rfl | (exfalso; omega)))
set_option maxRecDepth 10000 in
theorem cx_shareAnew {L : Nat} {xs : Nat → Int32} {d : Nat} {t : Bool × Nat × Nat} {m : mMM} {a b : Int} {E : Nat} (h : Ev (PP L xs) d 76 0 (entL 3 [vR (some 1), vI a, vI b]) [] (HS t m) (.inr E) (HS (tt t) m)) : Ev (PP L xs) (d + 1) 91 0 (entL 4 [vR (some 1), vI 11, vI a, vI b]) [] (HS t m) (.inr E) (HS (tt t) m) := by
  refine ev_go (pc' := 1) (ls' := [some (vR (some 1)), some (vI 11), some (vI a), some (vI b)]) (st' := [vI 11]) (h1 := HS t m) 1 (by rfl) ?_
  refine ev_if1 rfl rfl (fun c1 => ?_) (fun c1 => absurd c1 (by decide))
  refine ev_go (pc' := 15) (ls' := [some (vR (some 1)), some (vI 11), some (vI a), some (vI b)]) (st' := [vI 1, vI 11]) (h1 := HS t m) 2 (by rfl) ?_
  refine ev_ic1 rfl rfl rfl (fun c15 => ?_) (fun c15 => absurd c15 (by decide))
  refine ev_go (pc' := 28) (ls' := [some (vR (some 1)), some (vI 11), some (vI a), some (vI b)]) (st' := [vI 2, vI 11]) (h1 := HS t m) 2 (by rfl) ?_
  refine ev_ic1 rfl rfl rfl (fun c28 => ?_) (fun c28 => absurd c28 (by decide))
  refine ev_go (pc' := 40) (ls' := [some (vR (some 1)), some (vI 11), some (vI a), some (vI b)]) (st' := [vI 3, vI 11]) (h1 := HS t m) 2 (by rfl) ?_
  refine ev_ic1 rfl rfl rfl (fun c40 => ?_) (fun c40 => absurd c40 (by decide))
  refine ev_go (pc' := 71) (ls' := [some (vR (some 1)), some (vI 11), some (vI a), some (vI b)]) (st' := [vI 4, vI 11]) (h1 := HS t m) 2 (by rfl) ?_
  refine ev_ic1 rfl rfl rfl (fun c71 => ?_) (fun c71 => absurd c71 (by decide))
  refine ev_go (pc' := 83) (ls' := [some (vR (some 1)), some (vI 11), some (vI a), some (vI b)]) (st' := [vI 5, vI 11]) (h1 := HS t m) 2 (by rfl) ?_
  refine ev_ic1 rfl rfl rfl (fun c83 => ?_) (fun c83 => absurd c83 (by decide))
  refine ev_go (pc' := 98) (ls' := [some (vR (some 1)), some (vI 11), some (vI a), some (vI b)]) (st' := [vI 6, vI 11]) (h1 := HS t m) 2 (by rfl) ?_
  refine ev_ic1 rfl rfl rfl (fun c98 => ?_) (fun c98 => absurd c98 (by decide))
  refine ev_go (pc' := 112) (ls' := [some (vR (some 1)), some (vI 11), some (vI a), some (vI b)]) (st' := [vI 7, vI 11]) (h1 := HS t m) 2 (by rfl) ?_
  refine ev_ic1 rfl rfl rfl (fun c112 => ?_) (fun c112 => absurd c112 (by decide))
  refine ev_go (pc' := 127) (ls' := [some (vR (some 1)), some (vI 11), some (vI a), some (vI b)]) (st' := [vI 8, vI 11]) (h1 := HS t m) 2 (by rfl) ?_
  refine ev_ic1 rfl rfl rfl (fun c127 => ?_) (fun c127 => absurd c127 (by decide))
  refine ev_go (pc' := 142) (ls' := [some (vR (some 1)), some (vI 11), some (vI a), some (vI b)]) (st' := [vI 9, vI 11]) (h1 := HS t m) 2 (by rfl) ?_
  refine ev_ic1 rfl rfl rfl (fun c142 => ?_) (fun c142 => absurd c142 (by decide))
  refine ev_go (pc' := 157) (ls' := [some (vR (some 1)), some (vI 11), some (vI a), some (vI b)]) (st' := [vI 10, vI 11]) (h1 := HS t m) 2 (by rfl) ?_
  refine ev_ic1 rfl rfl rfl (fun c157 => ?_) (fun c157 => absurd c157 (by decide))
  refine ev_go (pc' := 172) (ls' := [some (vR (some 1)), some (vI 11), some (vI a), some (vI b)]) (st' := [vI b, vI a, vR (some 1)]) (h1 := HS t m) 3 (by rfl) ?_
  exact ev_callX rfl rfl (Nat.le_of_ble_eq_true rfl) h ⟨Nat.le_succ _, Nat.le_add_right _ _⟩ rfl
set_option maxRecDepth 10000 in
theorem as_ok {L : Nat} {xs : Nat → Int32} {d : Nat} {t t' : Bool × Nat × Nat} {m m' : mMM} {u a b v : Int} (h : Ev (PP L xs) d 91 0 (entL 4 [vR (some 1), vI u, vI a, vI b]) [] (HS t m) (.inl (some (vI v))) (HS t' m')) (hc : t.2.1 ≤ t'.2.1 ∧ t.2.2 ≤ t'.2.2) : Ev (PP L xs) (d + 1) 92 0 (entL 5 [vR (some 1), vI u, vI a, vI b]) [] (HS t m) (.inl (some (vI v))) (HS t' m') := by
  refine ev_go (pc' := 4) (ls' := [some (vR (some 1)), some (vI u), some (vI a), some (vI b), none]) (st' := [vI b, vI a, vI u, vR (some 1)]) (h1 := HS t m) 4 (by rfl) ?_
  refine ev_call rfl rfl (Nat.le_of_ble_eq_true rfl) h hc ?_
  show Ev (PP L xs) _ 92 7 [some (vR (some 1)), some (vI u), some (vI a), some (vI b), none] [vI v] (HS t' m') _ _
  exact ev_retE rfl rfl (by first | rfl | (simp [*]; done) | (split <;> first | rfl | (exfalso; omega))) (by first | rfl | (simp [*]; done) | (split <;> first | rfl | (exfalso; omega)))
set_option maxRecDepth 10000 in
theorem as_thr {L : Nat} {xs : Nat → Int32} {d : Nat} {t : Bool × Nat × Nat} {m : mMM} {u a b kk : Int} {E : Nat} (h : Ev (PP L xs) d 91 0 (entL 4 [vR (some 1), vI u, vI a, vI b]) [] (HS t m) (.inr E) (HS (tt t) m)) (hk : lx (dX (PP L xs 92)) E = some kk) : Ev (PP L xs) (d + 1) 92 0 (entL 5 [vR (some 1), vI u, vI a, vI b]) [] (HS t m) (.inl (some (vI kk))) (HS (tt t) m) := by
  refine ev_go (pc' := 4) (ls' := [some (vR (some 1)), some (vI u), some (vI a), some (vI b), none]) (st' := [vI b, vI a, vI u, vR (some 1)]) (h1 := HS t m) 4 (by rfl) ?_
  exact ev_catch rfl rfl (Nat.le_of_ble_eq_true rfl) h ⟨Nat.le_succ _, Nat.le_add_right _ _⟩ rfl hk rfl
theorem k_letter {L : Nat} {xs : Nat → Int32} {d : Nat} {t : Bool × Nat × Nat} {m m' : mMM} {a b v : Int} (h : Ev (PP L xs) 9 62 0 (entL 2 [vR (some 1), vI (a % 65536)]) [] (HS t m) (.inl (some (vI v))) (HS t m')) (hd : 9 ≤ d) : Ev (PP L xs) (d + 2) 92 0 (entL 5 [vR (some 1), vI 0, vI a, vI b]) [] (HS t m) (.inl (some (vI v))) (HS t m') := as_ok (ca_letter (ev_to h hd) ⟨Nat.le_refl _, Nat.le_refl _⟩) ⟨Nat.le_refl _, Nat.le_refl _⟩
theorem kx_letter {L : Nat} {xs : Nat → Int32} {d : Nat} {t : Bool × Nat × Nat} {m : mMM} {a b kk : Int} {E : Nat} (h : Ev (PP L xs) 9 62 0 (entL 2 [vR (some 1), vI (a % 65536)]) [] (HS t m) (.inr E) (HS (tt t) m)) (hk : lx (dX (PP L xs 92)) E = some kk) (hd : 9 ≤ d) : Ev (PP L xs) (d + 2) 92 0 (entL 5 [vR (some 1), vI 0, vI a, vI b]) [] (HS t m) (.inl (some (vI kk))) (HS (tt t) m) := as_thr (cx_letter (ev_to h hd)) hk
theorem k_tag {L : Nat} {xs : Nat → Int32} {d : Nat} {t : Bool × Nat × Nat} {m m' : mMM} {a b v : Int} (h : Ev (PP L xs) 9 63 0 (entL 3 [vR (some 1), vI a]) [] (HS t m) (.inl (some (vI v))) (HS t m')) (hd : 9 ≤ d) : Ev (PP L xs) (d + 2) 92 0 (entL 5 [vR (some 1), vI 1, vI a, vI b]) [] (HS t m) (.inl (some (vI v))) (HS t m') := as_ok (ca_tag (ev_to h hd) ⟨Nat.le_refl _, Nat.le_refl _⟩) ⟨Nat.le_refl _, Nat.le_refl _⟩
theorem kx_tag {L : Nat} {xs : Nat → Int32} {d : Nat} {t : Bool × Nat × Nat} {m : mMM} {a b kk : Int} {E : Nat} (h : Ev (PP L xs) 9 63 0 (entL 3 [vR (some 1), vI a]) [] (HS t m) (.inr E) (HS (tt t) m)) (hk : lx (dX (PP L xs 92)) E = some kk) (hd : 9 ≤ d) : Ev (PP L xs) (d + 2) 92 0 (entL 5 [vR (some 1), vI 1, vI a, vI b]) [] (HS t m) (.inl (some (vI kk))) (HS (tt t) m) := as_thr (cx_tag (ev_to h hd)) hk
theorem k_add {L : Nat} {xs : Nat → Int32} {d : Nat} {t : Bool × Nat × Nat} {m m' : mMM} {a b v : Int} (h : Ev (PP L xs) 9 64 0 (entL 1 [vR (some 1)]) [] (HS t m) (.inl (some (vI v))) (HS t m')) (hd : 9 ≤ d) : Ev (PP L xs) (d + 2) 92 0 (entL 5 [vR (some 1), vI 2, vI a, vI b]) [] (HS t m) (.inl (some (vI v))) (HS t m') := as_ok (ca_add (ev_to h hd) ⟨Nat.le_refl _, Nat.le_refl _⟩) ⟨Nat.le_refl _, Nat.le_refl _⟩
theorem kx_add {L : Nat} {xs : Nat → Int32} {d : Nat} {t : Bool × Nat × Nat} {m : mMM} {a b kk : Int} {E : Nat} (h : Ev (PP L xs) 9 64 0 (entL 1 [vR (some 1)]) [] (HS t m) (.inr E) (HS (tt t) m)) (hk : lx (dX (PP L xs 92)) E = some kk) (hd : 9 ≤ d) : Ev (PP L xs) (d + 2) 92 0 (entL 5 [vR (some 1), vI 2, vI a, vI b]) [] (HS t m) (.inl (some (vI kk))) (HS (tt t) m) := as_thr (cx_add (ev_to h hd)) hk
theorem k_text00 {L : Nat} {xs : Nat → Int32} {d : Nat} {t : Bool × Nat × Nat} {m m' : mMM} {a : Int} (h : Ev (PP L xs) 9 65 0 (entL 3 [vR (some 1), vI a, vI 0]) [] (HS t m) (.inl (some (vI 0))) (HS t m')) (hd : 9 ≤ d) : Ev (PP L xs) (d + 2) 92 0 (entL 5 [vR (some 1), vI 3, vI a, vI 0]) [] (HS t m) (.inl (some (vI 0))) (HS t m') := as_ok (ca_text00 (b := 0) (v := 0) (ev_to h hd) ⟨Nat.le_refl _, Nat.le_refl _⟩) ⟨Nat.le_refl _, Nat.le_refl _⟩
theorem k_text01 {L : Nat} {xs : Nat → Int32} {d : Nat} {t : Bool × Nat × Nat} {m m' : mMM} {a : Int} (h : Ev (PP L xs) 9 65 0 (entL 3 [vR (some 1), vI a, vI 0]) [] (HS t m) (.inl (some (vI 1))) (HS t m')) (hd : 9 ≤ d) : Ev (PP L xs) (d + 2) 92 0 (entL 5 [vR (some 1), vI 3, vI a, vI 0]) [] (HS t m) (.inl (some (vI 1))) (HS t m') := as_ok (ca_text01 (b := 0) (v := 0) (ev_to h hd) ⟨Nat.le_refl _, Nat.le_refl _⟩) ⟨Nat.le_refl _, Nat.le_refl _⟩
theorem k_text10 {L : Nat} {xs : Nat → Int32} {d : Nat} {t : Bool × Nat × Nat} {m m' : mMM} {a : Int} (h : Ev (PP L xs) 9 65 0 (entL 3 [vR (some 1), vI a, vI 1]) [] (HS t m) (.inl (some (vI 0))) (HS t m')) (hd : 9 ≤ d) : Ev (PP L xs) (d + 2) 92 0 (entL 5 [vR (some 1), vI 3, vI a, vI 1]) [] (HS t m) (.inl (some (vI 0))) (HS t m') := as_ok (ca_text10 (b := 0) (v := 0) (ev_to h hd) ⟨Nat.le_refl _, Nat.le_refl _⟩) ⟨Nat.le_refl _, Nat.le_refl _⟩
theorem k_text11 {L : Nat} {xs : Nat → Int32} {d : Nat} {t : Bool × Nat × Nat} {m m' : mMM} {a : Int} (h : Ev (PP L xs) 9 65 0 (entL 3 [vR (some 1), vI a, vI 1]) [] (HS t m) (.inl (some (vI 1))) (HS t m')) (hd : 9 ≤ d) : Ev (PP L xs) (d + 2) 92 0 (entL 5 [vR (some 1), vI 3, vI a, vI 1]) [] (HS t m) (.inl (some (vI 1))) (HS t m') := as_ok (ca_text11 (b := 0) (v := 0) (ev_to h hd) ⟨Nat.le_refl _, Nat.le_refl _⟩) ⟨Nat.le_refl _, Nat.le_refl _⟩
theorem k_word {L : Nat} {xs : Nat → Int32} {d : Nat} {t : Bool × Nat × Nat} {m m' : mMM} {a b v : Int} (h : Ev (PP L xs) 9 66 0 (entL 1 [vR (some 1)]) [] (HS t m) (.inl (some (vI v))) (HS t m')) (hd : 9 ≤ d) : Ev (PP L xs) (d + 2) 92 0 (entL 5 [vR (some 1), vI 4, vI a, vI b]) [] (HS t m) (.inl (some (vI v))) (HS t m') := as_ok (ca_word (ev_to h hd) ⟨Nat.le_refl _, Nat.le_refl _⟩) ⟨Nat.le_refl _, Nat.le_refl _⟩
theorem kx_word {L : Nat} {xs : Nat → Int32} {d : Nat} {t : Bool × Nat × Nat} {m : mMM} {a b kk : Int} {E : Nat} (h : Ev (PP L xs) 9 66 0 (entL 1 [vR (some 1)]) [] (HS t m) (.inr E) (HS (tt t) m)) (hk : lx (dX (PP L xs 92)) E = some kk) (hd : 9 ≤ d) : Ev (PP L xs) (d + 2) 92 0 (entL 5 [vR (some 1), vI 4, vI a, vI b]) [] (HS t m) (.inl (some (vI kk))) (HS (tt t) m) := as_thr (cx_word (ev_to h hd)) hk
theorem k_lock {L : Nat} {xs : Nat → Int32} {d : Nat} {t : Bool × Nat × Nat} {m m' : mMM} {a b v : Int} (h : Ev (PP L xs) 9 68 0 (entL 3 [vR (some 1), vI a, vI b]) [] (HS t m) (.inl (some (vI v))) (HS t m')) (hd : 9 ≤ d) : Ev (PP L xs) (d + 2) 92 0 (entL 5 [vR (some 1), vI 5, vI a, vI b]) [] (HS t m) (.inl (some (vI v))) (HS t m') := as_ok (ca_lock (ev_to h hd) ⟨Nat.le_refl _, Nat.le_refl _⟩) ⟨Nat.le_refl _, Nat.le_refl _⟩
theorem kx_lock {L : Nat} {xs : Nat → Int32} {d : Nat} {t : Bool × Nat × Nat} {m : mMM} {a b kk : Int} {E : Nat} (h : Ev (PP L xs) 9 68 0 (entL 3 [vR (some 1), vI a, vI b]) [] (HS t m) (.inr E) (HS (tt t) m)) (hk : lx (dX (PP L xs 92)) E = some kk) (hd : 9 ≤ d) : Ev (PP L xs) (d + 2) 92 0 (entL 5 [vR (some 1), vI 5, vI a, vI b]) [] (HS t m) (.inl (some (vI kk))) (HS (tt t) m) := as_thr (cx_lock (ev_to h hd)) hk
theorem k_weight {L : Nat} {xs : Nat → Int32} {d : Nat} {t : Bool × Nat × Nat} {m m' : mMM} {a b v : Int} (h : Ev (PP L xs) 9 69 0 (entL 2 [vR (some 1), vI a]) [] (HS t m) (.inl (some (vI v))) (HS t m')) (hd : 9 ≤ d) : Ev (PP L xs) (d + 2) 92 0 (entL 5 [vR (some 1), vI 6, vI a, vI b]) [] (HS t m) (.inl (some (vI v))) (HS t m') := as_ok (ca_weight (ev_to h hd) ⟨Nat.le_refl _, Nat.le_refl _⟩) ⟨Nat.le_refl _, Nat.le_refl _⟩
theorem kx_weight {L : Nat} {xs : Nat → Int32} {d : Nat} {t : Bool × Nat × Nat} {m : mMM} {a b kk : Int} {E : Nat} (h : Ev (PP L xs) 9 69 0 (entL 2 [vR (some 1), vI a]) [] (HS t m) (.inr E) (HS (tt t) m)) (hk : lx (dX (PP L xs 92)) E = some kk) (hd : 9 ≤ d) : Ev (PP L xs) (d + 2) 92 0 (entL 5 [vR (some 1), vI 6, vI a, vI b]) [] (HS t m) (.inl (some (vI kk))) (HS (tt t) m) := as_thr (cx_weight (ev_to h hd)) hk
theorem k_step {L : Nat} {xs : Nat → Int32} {d : Nat} {t : Bool × Nat × Nat} {m m' : mMM} {a b v : Int} (h : Ev (PP L xs) 9 70 0 (entL 3 [vR (some 1), vI a, vI b]) [] (HS t m) (.inl (some (vI v))) (HS t m')) (hd : 9 ≤ d) : Ev (PP L xs) (d + 2) 92 0 (entL 5 [vR (some 1), vI 7, vI a, vI b]) [] (HS t m) (.inl (some (vI v))) (HS t m') := as_ok (ca_step (ev_to h hd) ⟨Nat.le_refl _, Nat.le_refl _⟩) ⟨Nat.le_refl _, Nat.le_refl _⟩
theorem kx_step {L : Nat} {xs : Nat → Int32} {d : Nat} {t : Bool × Nat × Nat} {m : mMM} {a b kk : Int} {E : Nat} (h : Ev (PP L xs) 9 70 0 (entL 3 [vR (some 1), vI a, vI b]) [] (HS t m) (.inr E) (HS (tt t) m)) (hk : lx (dX (PP L xs 92)) E = some kk) (hd : 9 ≤ d) : Ev (PP L xs) (d + 2) 92 0 (entL 5 [vR (some 1), vI 7, vI a, vI b]) [] (HS t m) (.inl (some (vI kk))) (HS (tt t) m) := as_thr (cx_step (ev_to h hd)) hk
theorem k_path {L : Nat} {xs : Nat → Int32} {d : Nat} {t : Bool × Nat × Nat} {m m' : mMM} {a b v : Int} (h : Ev (PP L xs) 9 71 0 (entL 3 [vR (some 1), vI a, vI b]) [] (HS t m) (.inl (some (vI v))) (HS t m')) (hd : 9 ≤ d) : Ev (PP L xs) (d + 2) 92 0 (entL 5 [vR (some 1), vI 8, vI a, vI b]) [] (HS t m) (.inl (some (vI v))) (HS t m') := as_ok (ca_path (ev_to h hd) ⟨Nat.le_refl _, Nat.le_refl _⟩) ⟨Nat.le_refl _, Nat.le_refl _⟩
theorem kx_path {L : Nat} {xs : Nat → Int32} {d : Nat} {t : Bool × Nat × Nat} {m : mMM} {a b kk : Int} {E : Nat} (h : Ev (PP L xs) 9 71 0 (entL 3 [vR (some 1), vI a, vI b]) [] (HS t m) (.inr E) (HS (tt t) m)) (hk : lx (dX (PP L xs 92)) E = some kk) (hd : 9 ≤ d) : Ev (PP L xs) (d + 2) 92 0 (entL 5 [vR (some 1), vI 8, vI a, vI b]) [] (HS t m) (.inl (some (vI kk))) (HS (tt t) m) := as_thr (cx_path (ev_to h hd)) hk
theorem k_pathAnew {L : Nat} {xs : Nat → Int32} {d : Nat} {t : Bool × Nat × Nat} {m m' : mMM} {a b v : Int} (h : Ev (PP L xs) 9 72 0 (entL 3 [vR (some 1), vI a, vI b]) [] (HS t m) (.inl (some (vI v))) (HS t m')) (hd : 9 ≤ d) : Ev (PP L xs) (d + 2) 92 0 (entL 5 [vR (some 1), vI 9, vI a, vI b]) [] (HS t m) (.inl (some (vI v))) (HS t m') := as_ok (ca_pathAnew (ev_to h hd) ⟨Nat.le_refl _, Nat.le_refl _⟩) ⟨Nat.le_refl _, Nat.le_refl _⟩
theorem kx_pathAnew {L : Nat} {xs : Nat → Int32} {d : Nat} {t : Bool × Nat × Nat} {m : mMM} {a b kk : Int} {E : Nat} (h : Ev (PP L xs) 9 72 0 (entL 3 [vR (some 1), vI a, vI b]) [] (HS t m) (.inr E) (HS (tt t) m)) (hk : lx (dX (PP L xs 92)) E = some kk) (hd : 9 ≤ d) : Ev (PP L xs) (d + 2) 92 0 (entL 5 [vR (some 1), vI 9, vI a, vI b]) [] (HS t m) (.inl (some (vI kk))) (HS (tt t) m) := as_thr (cx_pathAnew (ev_to h hd)) hk
theorem k_share {L : Nat} {xs : Nat → Int32} {d : Nat} {t : Bool × Nat × Nat} {m m' : mMM} {a b v : Int} (h : Ev (PP L xs) 9 75 0 (entL 3 [vR (some 1), vI a, vI b]) [] (HS t m) (.inl (some (vI v))) (HS t m')) (hd : 9 ≤ d) : Ev (PP L xs) (d + 2) 92 0 (entL 5 [vR (some 1), vI 10, vI a, vI b]) [] (HS t m) (.inl (some (vI v))) (HS t m') := as_ok (ca_share (ev_to h hd) ⟨Nat.le_refl _, Nat.le_refl _⟩) ⟨Nat.le_refl _, Nat.le_refl _⟩
theorem kx_share {L : Nat} {xs : Nat → Int32} {d : Nat} {t : Bool × Nat × Nat} {m : mMM} {a b kk : Int} {E : Nat} (h : Ev (PP L xs) 9 75 0 (entL 3 [vR (some 1), vI a, vI b]) [] (HS t m) (.inr E) (HS (tt t) m)) (hk : lx (dX (PP L xs 92)) E = some kk) (hd : 9 ≤ d) : Ev (PP L xs) (d + 2) 92 0 (entL 5 [vR (some 1), vI 10, vI a, vI b]) [] (HS t m) (.inl (some (vI kk))) (HS (tt t) m) := as_thr (cx_share (ev_to h hd)) hk
theorem k_shareAnew {L : Nat} {xs : Nat → Int32} {d : Nat} {t : Bool × Nat × Nat} {m m' : mMM} {a b v : Int} (h : Ev (PP L xs) 9 76 0 (entL 3 [vR (some 1), vI a, vI b]) [] (HS t m) (.inl (some (vI v))) (HS t m')) (hd : 9 ≤ d) : Ev (PP L xs) (d + 2) 92 0 (entL 5 [vR (some 1), vI 11, vI a, vI b]) [] (HS t m) (.inl (some (vI v))) (HS t m') := as_ok (ca_shareAnew (ev_to h hd) ⟨Nat.le_refl _, Nat.le_refl _⟩) ⟨Nat.le_refl _, Nat.le_refl _⟩
theorem kx_shareAnew {L : Nat} {xs : Nat → Int32} {d : Nat} {t : Bool × Nat × Nat} {m : mMM} {a b kk : Int} {E : Nat} (h : Ev (PP L xs) 9 76 0 (entL 3 [vR (some 1), vI a, vI b]) [] (HS t m) (.inr E) (HS (tt t) m)) (hk : lx (dX (PP L xs 92)) E = some kk) (hd : 9 ≤ d) : Ev (PP L xs) (d + 2) 92 0 (entL 5 [vR (some 1), vI 11, vI a, vI b]) [] (HS t m) (.inl (some (vI kk))) (HS (tt t) m) := as_thr (cx_shareAnew (ev_to h hd)) hk
set_option maxRecDepth 10000 in
theorem c_draw {L : Nat} {xs : Nat → Int32} (hL : L ≤ 260) {d : Nat} {t : Bool × Nat × Nat} {m : mMM} {k : Nat} (hk : k < 1000) : ∃ v : Int, (-2147483648 ≤ v ∧ v < 2147483648) ∧ Ev (PP L xs) d 93 0 (entL 2 [vR (some 0), vI ((k : Nat) : Int)]) [] (HS t m) (.inl (some (vI v))) (HS t m) := by
  by_cases hkL : k < L
  · refine ⟨(xs k).toInt, xs_bd _, ?_⟩
    refine ev_go (pc' := 3) (ls' := [some (vR (some 0)), some (vI ((k : Nat) : Int))]) (st' := [vI (L : Int), vI ((k : Nat) : Int)]) (h1 := HS t m) 3 (by rfl) ?_
    refine ev_ic3 rfl (inI_of (by omega) (by omega)) (inI_of (by omega) (by omega)) (fun c3 => absurd c3 (by omega)) (fun c3 => ?_)
    refine ev_go (pc' := 8) (ls' := [some (vR (some 0)), some (vI ((k : Nat) : Int))]) (st' := [vI ((k : Nat) : Int), vR (some 0)]) (h1 := HS t m) 2 (by rfl) ?_
    refine ev_sld (k := k) rfl rfl (by omega) ?_
    refine ev_go (pc' := 27) (ls' := [some (vR (some 0)), some (vI ((k : Nat) : Int))]) (st' := [vI (xs k).toInt]) (h1 := HS t m) 1 (by rfl) ?_
    exact ev_retE rfl rfl (by first | rfl | (simp [*]; done) | (split <;> first | rfl | (exfalso; omega))) (by first | rfl | (simp [*]; done) | (split <;> first | rfl | (exfalso; omega)))
  · refine ⟨(((((3740017 * k) * k) + 150053 * k : Nat) : Int) + 321).bmod 4294967296, bm_bd _, ?_⟩
    refine ev_go (pc' := 3) (ls' := [some (vR (some 0)), some (vI ((k : Nat) : Int))]) (st' := [vI (L : Int), vI ((k : Nat) : Int)]) (h1 := HS t m) 3 (by rfl) ?_
    refine ev_ic3 rfl (inI_of (by omega) (by omega)) (inI_of (by omega) (by omega)) (fun c3 => ?_) (fun c3 => absurd c3 (by omega))
    refine ev_go (pc' := 26) (ls' := [some (vR (some 0)), some (vI ((k : Nat) : Int))]) (st' := [vI 321, vI ((((3740017 * k) * k) + 150053 * k : Nat) : Int)]) (h1 := HS t m) 10 (by rfl) ?_
    refine ev_iaddw rfl ?_
    exact ev_retE rfl rfl (by first | rfl | (simp [*]; done) | (split <;> first | rfl | (exfalso; omega))) (by first | rfl | (simp [*]; done) | (split <;> first | rfl | (exfalso; omega)))
