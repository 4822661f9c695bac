/-! ===== contracts of the small methods (walked by a program) ===== -/
def TX (a : Nat) : Prop := kd a = (0, 5) ∧ kd (a + 1) = (1, 6) ∧ kd (a + 2) = (1, 6) ∧ rf a 0 = some (a + 1) ∧ rf a 1 = some (a + 2)
def RKA (a : Nat) : Prop := kd a = (0, 3) ∧ kd (a + 1) = (2, 10) ∧ kd (a + 2) = (1, 10) ∧ rf a 0 = some (a + 1) ∧ rf a 1 = some (a + 2)
theorem TX_tx {i : Nat} (h : i < 21) : TX (tx i) := ⟨(kd_tx i h).1, (kd_tx i h).2.1, (kd_tx i h).2.2, (rf_tx i h).2.1, (rf_tx i h).2.2⟩
theorem RKA_rk {i : Nat} (h : i < 25) : RKA (rk i) := kd_rk i h
theorem RKA_best : RKA 185 := ⟨rfl, rfl, rfl, rfl, rfl⟩
theorem toNat3 (f : Nat) : (3 * (f : Int)).toNat = 3 * f := by omega
theorem shr_bd {x : Int} (h0 : 0 ≤ x) (h1 : x < 2147483648) (n : Nat) : 0 ≤ x / 2 ^ n ∧ x / 2 ^ n < 2147483648 :=
  have hp : (0 : Int) < 2 ^ n := Int.pow_pos (by decide)
  ⟨Int.ediv_nonneg h0 (Int.le_of_lt hp), Int.lt_of_le_of_lt (Int.ediv_le_self _ h0) h1⟩
def z5 (m : mMM) (a : Nat) : mMM := up (up (up (up (up m a 0 0) a 1 0) a 2 0) a 3 0) a 4 0
set_option maxRecDepth 10000 in
theorem c_tw_isEmpty {L : Nat} {xs : Nat → Int32} {d : Nat} {t : Bool × Nat × Nat} {m : mMM} (h : 0 ≤ m 2 1 ∧ m 2 1 ≤ 6) : Ev (PP L xs) d 56 0 (entL 1 [vR (some 2)]) [] (HS t m) (.inl (some (vI (if m 2 1 = 0 then 1 else 0)))) (HS t m) := by
  refine ev_go (pc' := 1) (ls' := [some (vR (some 2))]) (st' := [vR (some 2)]) (h1 := HS t m) 1 (by rfl) ?_
  refine ev_getI rfl rfl ?_
  refine ev_if1 rfl (inI_of (by omega) (by omega)) (fun c4 => ?_) (fun c4 => ?_)
  · refine ev_go (pc' := 12) (ls' := [some (vR (some 2))]) (st' := [vI 0]) (h1 := HS t m) 1 (by rfl) ?_
    exact ev_retE rfl rfl (by first | rfl | (simp [*]; done) | (split <;> first | rfl | (exfalso; omega))) (by first | rfl | (simp [*]; done) | (split <;> first | rfl | (exfalso; omega)))
  · refine ev_go (pc' := 12) (ls' := [some (vR (some 2))]) (st' := [vI 1]) (h1 := HS t m) 2 (by rfl) ?_
    exact ev_retE rfl rfl (by first | rfl | (simp [*]; done) | (split <;> first | rfl | (exfalso; omega))) (by first | rfl | (simp [*]; done) | (split <;> first | rfl | (exfalso; omega)))
set_option maxRecDepth 10000 in
theorem c_tw_isFull {L : Nat} {xs : Nat → Int32} {d : Nat} {t : Bool × Nat × Nat} {m : mMM} (h : 0 ≤ m 2 1 ∧ m 2 1 ≤ 6) : Ev (PP L xs) d 57 0 (entL 1 [vR (some 2)]) [] (HS t m) (.inl (some (vI (if 6 ≤ m 2 1 then 1 else 0)))) (HS t m) := by
  refine ev_go (pc' := 1) (ls' := [some (vR (some 2))]) (st' := [vR (some 2)]) (h1 := HS t m) 1 (by rfl) ?_
  refine ev_getI rfl rfl ?_
  refine ev_go (pc' := 6) (ls' := [some (vR (some 2))]) (st' := [vI 6, vI (m 2 1)]) (h1 := HS t m) 1 (by rfl) ?_
  refine ev_ic2 rfl (inI_of (by omega) (by omega)) rfl (fun c6 => ?_) (fun c6 => ?_)
  · refine ev_go (pc' := 14) (ls' := [some (vR (some 2))]) (st' := [vI 0]) (h1 := HS t m) 1 (by rfl) ?_
    exact ev_retE rfl rfl (by first | rfl | (simp [*]; done) | (split <;> first | rfl | (exfalso; omega))) (by first | rfl | (simp [*]; done) | (split <;> first | rfl | (exfalso; omega)))
  · refine ev_go (pc' := 14) (ls' := [some (vR (some 2))]) (st' := [vI 1]) (h1 := HS t m) 2 (by rfl) ?_
    exact ev_retE rfl rfl (by first | rfl | (simp [*]; done) | (split <;> first | rfl | (exfalso; omega))) (by first | rfl | (simp [*]; done) | (split <;> first | rfl | (exfalso; omega)))
set_option maxRecDepth 10000 in
theorem c_tw_code {L : Nat} {xs : Nat → Int32} {d : Nat} {t : Bool × Nat × Nat} {m : mMM}  : Ev (PP L xs) d 59 0 (entL 1 [vR (some 2)]) [] (HS t m) (.inl (some (vI (m 2 0)))) (HS t m) := by
  refine ev_go (pc' := 1) (ls' := [some (vR (some 2))]) (st' := [vR (some 2)]) (h1 := HS t m) 1 (by rfl) ?_
  refine ev_getI rfl rfl ?_
  exact ev_retE rfl rfl (by first | rfl | (simp [*]; done) | (split <;> first | rfl | (exfalso; omega))) (by first | rfl | (simp [*]; done) | (split <;> first | rfl | (exfalso; omega)))
set_option maxRecDepth 10000 in
theorem c_tw_take {L : Nat} {xs : Nat → Int32} {d : Nat} {t : Bool × Nat × Nat} {m : mMM}  : Ev (PP L xs) d 60 0 (entL 2 [vR (some 2)]) [] (HS t m) (.inl (some (vI (m 2 0)))) (HS t (up (up m 2 0 0) 2 1 0)) := by
  refine ev_go (pc' := 1) (ls' := [some (vR (some 2)), none]) (st' := [vR (some 2)]) (h1 := HS t m) 1 (by rfl) ?_
  refine ev_getI rfl rfl ?_
  refine ev_go (pc' := 7) (ls' := [some (vR (some 2)), some (vI (m 2 0))]) (st' := [vI 0, vR (some 2)]) (h1 := HS t m) 3 (by rfl) ?_
  refine ev_putI rfl rfl ?_
  refine ev_go (pc' := 12) (ls' := [some (vR (some 2)), some (vI (m 2 0))]) (st' := [vI 0, vR (some 2)]) (h1 := HS t (up m 2 0 0)) 2 (by rfl) ?_
  refine ev_putI rfl rfl ?_
  refine ev_go (pc' := 16) (ls' := [some (vR (some 2)), some (vI (m 2 0))]) (st' := [vI (m 2 0)]) (h1 := HS t (up (up m 2 0 0) 2 1 0)) 1 (by rfl) ?_
  exact ev_retE rfl rfl (by first | rfl | (simp [*]; done) | (split <;> first | rfl | (exfalso; omega))) (by first | rfl | (simp [*]; done) | (split <;> first | rfl | (exfalso; omega)))
set_option maxRecDepth 10000 in
theorem c_tw_append {L : Nat} {xs : Nat → Int32} {d : Nat} {t : Bool × Nat × Nat} {m : mMM} {c : Int} (h0 : 0 ≤ m 2 0) (h1 : m 2 0 < 33554432) (hc : 97 ≤ c) (hc2 : c ≤ 122) : Ev (PP L xs) d 58 0 (entL 2 [vR (some 2), vI c]) [] (HS t m) (.inl (some (vI (m 2 1 + 1)))) (HS t (up (up m 2 0 (m 2 0 * 2 ^ 5 + (c - 97 + 1))) 2 1 (m 2 1 + 1))) := by
  refine ev_go (pc' := 2) (ls' := [some (vR (some 2)), some (vI c)]) (st' := [vR (some 2), vR (some 2)]) (h1 := HS t m) 2 (by rfl) ?_
  refine ev_getI rfl rfl ?_
  refine ev_go (pc' := 13) (ls' := [some (vR (some 2)), some (vI c)]) (st' := [vI ((c - 97) + 1), vI ((m 2 0) * 2 ^ 5), vR (some 2)]) (h1 := HS t m) 7 (by rfl) ?_
  refine ev_iorA 5 rfl rfl h0 (by omega) (by omega) (by omega) (by decide) ?_
  refine ev_putI rfl rfl ?_
  refine ev_go (pc' := 19) (ls' := [some (vR (some 2)), some (vI c)]) (st' := [vR (some 2), vR (some 2)]) (h1 := HS t (up m 2 0 (((m 2 0) * 2 ^ 5) + ((c - 97) + 1)))) 2 (by rfl) ?_
  refine ev_getIv (v := (m 2 1)) rfl rfl (up_ne2 _ _ (by decide)) ?_
  refine ev_go (pc' := 24) (ls' := [some (vR (some 2)), some (vI c)]) (st' := [vI ((m 2 1) + 1), vR (some 2)]) (h1 := HS t (up m 2 0 (((m 2 0) * 2 ^ 5) + ((c - 97) + 1)))) 2 (by rfl) ?_
  refine ev_putI rfl rfl ?_
  refine ev_go (pc' := 28) (ls' := [some (vR (some 2)), some (vI c)]) (st' := [vR (some 2)]) (h1 := HS t (up (up m 2 0 (((m 2 0) * 2 ^ 5) + ((c - 97) + 1))) 2 1 ((m 2 1) + 1))) 1 (by rfl) ?_
  refine ev_getIv (v := ((m 2 1) + 1)) rfl rfl (up_eq _ _ _ _) ?_
  exact ev_retE rfl rfl (by first | rfl | (simp [*]; done) | (split <;> first | rfl | (exfalso; omega))) (by first | rfl | (simp [*]; done) | (split <;> first | rfl | (exfalso; omega)))
set_option maxRecDepth 10000 in
theorem c_tx_isEmpty {L : Nat} {xs : Nat → Int32} {d : Nat} {t : Bool × Nat × Nat} {m : mMM} {a : Nat} (ha : TX a) (h : inI (m a 2) = true) : Ev (PP L xs) d 45 0 (entL 1 [vR (some a)]) [] (HS t m) (.inl (some (vI (if m a 2 = 0 then 1 else 0)))) (HS t m) := by
  refine ev_go (pc' := 1) (ls' := [some (vR (some a))]) (st' := [vR (some a)]) (h1 := HS t m) 1 (by rfl) ?_
  refine ev_getI rfl ha.1 ?_
  refine ev_if1 rfl h (fun c4 => ?_) (fun c4 => ?_)
  · refine ev_go (pc' := 12) (ls' := [some (vR (some a))]) (st' := [vI 0]) (h1 := HS t m) 1 (by rfl) ?_
    exact ev_retE rfl rfl (by first | rfl | (simp [*]; done) | (split <;> first | rfl | (exfalso; omega))) (by first | rfl | (simp [*]; done) | (split <;> first | rfl | (exfalso; omega)))
  · refine ev_go (pc' := 12) (ls' := [some (vR (some a))]) (st' := [vI 1]) (h1 := HS t m) 2 (by rfl) ?_
    exact ev_retE rfl rfl (by first | rfl | (simp [*]; done) | (split <;> first | rfl | (exfalso; omega))) (by first | rfl | (simp [*]; done) | (split <;> first | rfl | (exfalso; omega)))
set_option maxRecDepth 10000 in
theorem c_tx_isFull {L : Nat} {xs : Nat → Int32} {d : Nat} {t : Bool × Nat × Nat} {m : mMM} {a : Nat} (ha : TX a) (h : inI (m a 2) = true) : Ev (PP L xs) d 46 0 (entL 1 [vR (some a)]) [] (HS t m) (.inl (some (vI (if 6 ≤ m a 2 then 1 else 0)))) (HS t m) := by
  refine ev_go (pc' := 1) (ls' := [some (vR (some a))]) (st' := [vR (some a)]) (h1 := HS t m) 1 (by rfl) ?_
  refine ev_getI rfl ha.1 ?_
  refine ev_go (pc' := 6) (ls' := [some (vR (some a))]) (st' := [vI 6, vI (m a 2)]) (h1 := HS t m) 1 (by rfl) ?_
  refine ev_ic2 rfl h rfl (fun c6 => ?_) (fun c6 => ?_)
  · refine ev_go (pc' := 14) (ls' := [some (vR (some a))]) (st' := [vI 0]) (h1 := HS t m) 1 (by rfl) ?_
    exact ev_retE rfl rfl (by first | rfl | (simp [*]; done) | (split <;> first | rfl | (exfalso; omega))) (by first | rfl | (simp [*]; done) | (split <;> first | rfl | (exfalso; omega)))
  · refine ev_go (pc' := 14) (ls' := [some (vR (some a))]) (st' := [vI 1]) (h1 := HS t m) 2 (by rfl) ?_
    exact ev_retE rfl rfl (by first | rfl | (simp [*]; done) | (split <;> first | rfl | (exfalso; omega))) (by first | rfl | (simp [*]; done) | (split <;> first | rfl | (exfalso; omega)))
set_option maxRecDepth 10000 in
theorem c_tx_append {L : Nat} {xs : Nat → Int32} {d : Nat} {t : Bool × Nat × Nat} {m : mMM} {a k : Nat} {w g : Int} (ha : TX a) (hk : m a 2 = (k : Int)) (hk6 : k < 6) : Ev (PP L xs) d 47 0 (entL 3 [vR (some a), vI w, vI g]) [] (HS t m) (.inl (some (vI (((k + 1 : Nat) : Int))))) (HS t (up (up (up m (a + 1) k w) (a + 2) k g) a 2 ((k + 1 : Nat) : Int))) := by
  refine ev_go (pc' := 1) (ls' := [some (vR (some a)), some (vI w), some (vI g)]) (st' := [vR (some a)]) (h1 := HS t m) 1 (by rfl) ?_
  refine ev_getR rfl ha.1 (ha.2.2.2.1 : rf a 0 = some (a + 1)) ?_
  refine ev_go (pc' := 5) (ls' := [some (vR (some a)), some (vI w), some (vI g)]) (st' := [vR (some a), vR (some (a + 1))]) (h1 := HS t m) 1 (by rfl) ?_
  refine ev_getIv (v := ((k : Nat) : Int)) rfl ha.1 (hk) ?_
  refine ev_go (pc' := 9) (ls' := [some (vR (some a)), some (vI w), some (vI g)]) (st' := [vI w, vI ((k : Nat) : Int), vR (some (a + 1))]) (h1 := HS t m) 1 (by rfl) ?_
  refine ev_iast (k := k) rfl ha.2.1 rfl (by omega) ?_
  refine ev_go (pc' := 11) (ls' := [some (vR (some a)), some (vI w), some (vI g)]) (st' := [vR (some a)]) (h1 := HS t (up m (a + 1) k w)) 1 (by rfl) ?_
  refine ev_getR rfl ha.1 (ha.2.2.2.2 : rf a 1 = some (a + 2)) ?_
  refine ev_go (pc' := 15) (ls' := [some (vR (some a)), some (vI w), some (vI g)]) (st' := [vR (some a), vR (some (a + 2))]) (h1 := HS t (up m (a + 1) k w)) 1 (by rfl) ?_
  refine ev_getIv (v := ((k : Nat) : Int)) rfl ha.1 ((up_ne1 _ _ (by omega)).trans (hk)) ?_
  refine ev_go (pc' := 19) (ls' := [some (vR (some a)), some (vI w), some (vI g)]) (st' := [vI g, vI ((k : Nat) : Int), vR (some (a + 2))]) (h1 := HS t (up m (a + 1) k w)) 1 (by rfl) ?_
  refine ev_iast (k := k) rfl ha.2.2.1 rfl (by omega) ?_
  refine ev_go (pc' := 22) (ls' := [some (vR (some a)), some (vI w), some (vI g)]) (st' := [vR (some a), vR (some a)]) (h1 := HS t (up (up m (a + 1) k w) (a + 2) k g)) 2 (by rfl) ?_
  refine ev_getIv (v := ((k : Nat) : Int)) rfl ha.1 ((up_ne1 _ _ (by omega)).trans ((up_ne1 _ _ (by omega)).trans (hk))) ?_
  refine ev_go (pc' := 27) (ls' := [some (vR (some a)), some (vI w), some (vI g)]) (st' := [vI ((k + 1 : Nat) : Int), vR (some a)]) (h1 := HS t (up (up m (a + 1) k w) (a + 2) k g)) 2 (by rfl) ?_
  refine ev_putI rfl ha.1 ?_
  refine ev_go (pc' := 31) (ls' := [some (vR (some a)), some (vI w), some (vI g)]) (st' := [vR (some a)]) (h1 := HS t (up (up (up m (a + 1) k w) (a + 2) k g) a 2 ((k + 1 : Nat) : Int))) 1 (by rfl) ?_
  refine ev_getIv (v := ((k + 1 : Nat) : Int)) rfl ha.1 (up_eq _ _ _ _) ?_
  exact ev_retE rfl rfl (by first | rfl | (simp [*]; done) | (split <;> first | rfl | (exfalso; omega))) (by first | rfl | (simp [*]; done) | (split <;> first | rfl | (exfalso; omega)))
set_option maxRecDepth 10000 in
theorem c_se_size {L : Nat} {xs : Nat → Int32} {d : Nat} {t : Bool × Nat × Nat} {m : mMM}  : Ev (PP L xs) d 37 0 (entL 1 [vR (some 75)]) [] (HS t m) (.inl (some (vI (m 75 2)))) (HS t m) := by
  refine ev_go (pc' := 1) (ls' := [some (vR (some 75))]) (st' := [vR (some 75)]) (h1 := HS t m) 1 (by rfl) ?_
  refine ev_getI rfl rfl ?_
  exact ev_retE rfl rfl (by first | rfl | (simp [*]; done) | (split <;> first | rfl | (exfalso; omega))) (by first | rfl | (simp [*]; done) | (split <;> first | rfl | (exfalso; omega)))
set_option maxRecDepth 10000 in
theorem c_se_isFull {L : Nat} {xs : Nat → Int32} {d : Nat} {t : Bool × Nat × Nat} {m : mMM} (h : 0 ≤ m 75 2 ∧ m 75 2 ≤ 5) : Ev (PP L xs) d 38 0 (entL 1 [vR (some 75)]) [] (HS t m) (.inl (some (vI (if 5 ≤ m 75 2 then 1 else 0)))) (HS t m) := by
  refine ev_go (pc' := 1) (ls' := [some (vR (some 75))]) (st' := [vR (some 75)]) (h1 := HS t m) 1 (by rfl) ?_
  refine ev_getI rfl rfl ?_
  refine ev_go (pc' := 5) (ls' := [some (vR (some 75))]) (st' := [vI 5, vI (m 75 2)]) (h1 := HS t m) 1 (by rfl) ?_
  refine ev_ic2 rfl (inI_of (by omega) (by omega)) rfl (fun c5 => ?_) (fun c5 => ?_)
  · refine ev_go (pc' := 13) (ls' := [some (vR (some 75))]) (st' := [vI 0]) (h1 := HS t m) 1 (by rfl) ?_
    exact ev_retE rfl rfl (by first | rfl | (simp [*]; done) | (split <;> first | rfl | (exfalso; omega))) (by first | rfl | (simp [*]; done) | (split <;> first | rfl | (exfalso; omega)))
  · refine ev_go (pc' := 13) (ls' := [some (vR (some 75))]) (st' := [vI 1]) (h1 := HS t m) 2 (by rfl) ?_
    exact ev_retE rfl rfl (by first | rfl | (simp [*]; done) | (split <;> first | rfl | (exfalso; omega))) (by first | rfl | (simp [*]; done) | (split <;> first | rfl | (exfalso; omega)))
set_option maxRecDepth 10000 in
theorem c_se_append {L : Nat} {xs : Nat → Int32} {d : Nat} {t : Bool × Nat × Nat} {m : mMM} {k : Nat} {w : Int} (hk : m 75 2 = (k : Int)) (hk5 : k < 5) : Ev (PP L xs) d 39 0 (entL 2 [vR (some 75), vI w]) [] (HS t m) (.inl (some (vI (((k + 1 : Nat) : Int))))) (HS t (up (up (up m 76 k w) 77 k (-1)) 75 2 ((k + 1 : Nat) : Int))) := by
  refine ev_go (pc' := 1) (ls' := [some (vR (some 75)), some (vI w)]) (st' := [vR (some 75)]) (h1 := HS t m) 1 (by rfl) ?_
  refine ev_getR rfl rfl (rfl : rf 75 0 = some 76) ?_
  refine ev_go (pc' := 5) (ls' := [some (vR (some 75)), some (vI w)]) (st' := [vR (some 75), vR (some 76)]) (h1 := HS t m) 1 (by rfl) ?_
  refine ev_getIv (v := ((k : Nat) : Int)) rfl rfl (hk) ?_
  refine ev_go (pc' := 9) (ls' := [some (vR (some 75)), some (vI w)]) (st' := [vI w, vI ((k : Nat) : Int), vR (some 76)]) (h1 := HS t m) 1 (by rfl) ?_
  refine ev_iast (k := k) rfl rfl rfl (by omega) ?_
  refine ev_go (pc' := 11) (ls' := [some (vR (some 75)), some (vI w)]) (st' := [vR (some 75)]) (h1 := HS t (up m 76 k w)) 1 (by rfl) ?_
  refine ev_getR rfl rfl (rfl : rf 75 1 = some 77) ?_
  refine ev_go (pc' := 15) (ls' := [some (vR (some 75)), some (vI w)]) (st' := [vR (some 75), vR (some 77)]) (h1 := HS t (up m 76 k w)) 1 (by rfl) ?_
  refine ev_getIv (v := ((k : Nat) : Int)) rfl rfl ((up_ne1 _ _ (by decide)).trans (hk)) ?_
  refine ev_go (pc' := 19) (ls' := [some (vR (some 75)), some (vI w)]) (st' := [vI (-1), vI ((k : Nat) : Int), vR (some 77)]) (h1 := HS t (up m 76 k w)) 1 (by rfl) ?_
  refine ev_iast (k := k) rfl rfl rfl (by omega) ?_
  refine ev_go (pc' := 22) (ls' := [some (vR (some 75)), some (vI w)]) (st' := [vR (some 75), vR (some 75)]) (h1 := HS t (up (up m 76 k w) 77 k (-1))) 2 (by rfl) ?_
  refine ev_getIv (v := ((k : Nat) : Int)) rfl rfl ((up_ne1 _ _ (by decide)).trans ((up_ne1 _ _ (by decide)).trans (hk))) ?_
  refine ev_go (pc' := 27) (ls' := [some (vR (some 75)), some (vI w)]) (st' := [vI ((k + 1 : Nat) : Int), vR (some 75)]) (h1 := HS t (up (up m 76 k w) 77 k (-1))) 2 (by rfl) ?_
  refine ev_putI rfl rfl ?_
  refine ev_go (pc' := 31) (ls' := [some (vR (some 75)), some (vI w)]) (st' := [vR (some 75)]) (h1 := HS t (up (up (up m 76 k w) 77 k (-1)) 75 2 ((k + 1 : Nat) : Int))) 1 (by rfl) ?_
  refine ev_getIv (v := ((k + 1 : Nat) : Int)) rfl rfl (up_eq _ _ _ _) ?_
  exact ev_retE rfl rfl (by first | rfl | (simp [*]; done) | (split <;> first | rfl | (exfalso; omega))) (by first | rfl | (simp [*]; done) | (split <;> first | rfl | (exfalso; omega)))
set_option maxRecDepth 10000 in
theorem c_se_removeAll {L : Nat} {xs : Nat → Int32} {d : Nat} {t : Bool × Nat × Nat} {m : mMM}  : Ev (PP L xs) d 40 0 (entL 2 [vR (some 75)]) [] (HS t m) (.inl (some (vI (m 75 2)))) (HS t (up m 75 2 0)) := by
  refine ev_go (pc' := 1) (ls' := [some (vR (some 75)), none]) (st' := [vR (some 75)]) (h1 := HS t m) 1 (by rfl) ?_
  refine ev_getI rfl rfl ?_
  refine ev_go (pc' := 7) (ls' := [some (vR (some 75)), some (vI (m 75 2))]) (st' := [vI 0, vR (some 75)]) (h1 := HS t m) 3 (by rfl) ?_
  refine ev_putI rfl rfl ?_
  refine ev_go (pc' := 11) (ls' := [some (vR (some 75)), some (vI (m 75 2))]) (st' := [vI (m 75 2)]) (h1 := HS t (up m 75 2 0)) 1 (by rfl) ?_
  exact ev_retE rfl rfl (by first | rfl | (simp [*]; done) | (split <;> first | rfl | (exfalso; omega))) (by first | rfl | (simp [*]; done) | (split <;> first | rfl | (exfalso; omega)))
set_option maxRecDepth 10000 in
theorem c_se_wordAt {L : Nat} {xs : Nat → Int32} {d : Nat} {t : Bool × Nat × Nat} {m : mMM} {k : Nat} (hk : k < 5) : Ev (PP L xs) d 41 0 (entL 2 [vR (some 75), vI ((k : Nat) : Int)]) [] (HS t m) (.inl (some (vI (m 76 k)))) (HS t m) := by
  refine ev_go (pc' := 1) (ls' := [some (vR (some 75)), some (vI ((k : Nat) : Int))]) (st' := [vR (some 75)]) (h1 := HS t m) 1 (by rfl) ?_
  refine ev_getR rfl rfl (rfl : rf 75 0 = some 76) ?_
  refine ev_go (pc' := 5) (ls' := [some (vR (some 75)), some (vI ((k : Nat) : Int))]) (st' := [vI ((k : Nat) : Int), vR (some 76)]) (h1 := HS t m) 1 (by rfl) ?_
  refine ev_iald (k := k) rfl rfl rfl (by omega) ?_
  exact ev_retE rfl rfl (by first | rfl | (simp [*]; done) | (split <;> first | rfl | (exfalso; omega))) (by first | rfl | (simp [*]; done) | (split <;> first | rfl | (exfalso; omega)))
set_option maxRecDepth 10000 in
theorem c_se_lockTo {L : Nat} {xs : Nat → Int32} {d : Nat} {t : Bool × Nat × Nat} {m : mMM} {k : Nat} {g : Int} (hk : k < 5) : Ev (PP L xs) d 42 0 (entL 4 [vR (some 75), vI ((k : Nat) : Int), vI g]) [] (HS t m) (.inl (some (vI (m 77 k)))) (HS t (up m 77 k g)) := by
  refine ev_go (pc' := 1) (ls' := [some (vR (some 75)), some (vI ((k : Nat) : Int)), some (vI g), none]) (st' := [vR (some 75)]) (h1 := HS t m) 1 (by rfl) ?_
  refine ev_getR rfl rfl (rfl : rf 75 1 = some 77) ?_
  refine ev_go (pc' := 5) (ls' := [some (vR (some 75)), some (vI ((k : Nat) : Int)), some (vI g), none]) (st' := [vI ((k : Nat) : Int), vR (some 77)]) (h1 := HS t m) 1 (by rfl) ?_
  refine ev_iald (k := k) rfl rfl rfl (by omega) ?_
  refine ev_go (pc' := 8) (ls' := [some (vR (some 75)), some (vI ((k : Nat) : Int)), some (vI g), some (vI (m 77 k))]) (st' := [vR (some 75)]) (h1 := HS t m) 2 (by rfl) ?_
  refine ev_getR rfl rfl (rfl : rf 75 1 = some 77) ?_
  refine ev_go (pc' := 13) (ls' := [some (vR (some 75)), some (vI ((k : Nat) : Int)), some (vI g), some (vI (m 77 k))]) (st' := [vI g, vI ((k : Nat) : Int), vR (some 77)]) (h1 := HS t m) 2 (by rfl) ?_
  refine ev_iast (k := k) rfl rfl rfl (by omega) ?_
  refine ev_go (pc' := 15) (ls' := [some (vR (some 75)), some (vI ((k : Nat) : Int)), some (vI g), some (vI (m 77 k))]) (st' := [vI (m 77 k)]) (h1 := HS t (up m 77 k g)) 1 (by rfl) ?_
  exact ev_retE rfl rfl (by first | rfl | (simp [*]; done) | (split <;> first | rfl | (exfalso; omega))) (by first | rfl | (simp [*]; done) | (split <;> first | rfl | (exfalso; omega)))
set_option maxRecDepth 10000 in
theorem c_se_allows {L : Nat} {xs : Nat → Int32} {d : Nat} {t : Bool × Nat × Nat} {m : mMM} {k : Nat} {g : Int} (hk : k < 5) (h : inI (m 77 k) = true) (hg : inI g = true) : Ev (PP L xs) d 43 0 (entL 3 [vR (some 75), vI ((k : Nat) : Int), vI g]) [] (HS t m) (.inl (some (vI (if m 77 k = -1 ∨ m 77 k = g then 1 else 0)))) (HS t m) := by
  refine ev_go (pc' := 1) (ls' := [some (vR (some 75)), some (vI ((k : Nat) : Int)), some (vI g)]) (st' := [vR (some 75)]) (h1 := HS t m) 1 (by rfl) ?_
  refine ev_getR rfl rfl (rfl : rf 75 1 = some 77) ?_
  refine ev_go (pc' := 5) (ls' := [some (vR (some 75)), some (vI ((k : Nat) : Int)), some (vI g)]) (st' := [vI ((k : Nat) : Int), vR (some 77)]) (h1 := HS t m) 1 (by rfl) ?_
  refine ev_iald (k := k) rfl rfl rfl (by omega) ?_
  refine ev_go (pc' := 7) (ls' := [some (vR (some 75)), some (vI ((k : Nat) : Int)), some (vI g)]) (st' := [vI (-1), vI (m 77 k)]) (h1 := HS t m) 1 (by rfl) ?_
  refine ev_ic0 rfl h rfl (fun c7 => ?_) (fun c7 => ?_)
  · refine ev_go (pc' := 25) (ls' := [some (vR (some 75)), some (vI ((k : Nat) : Int)), some (vI g)]) (st' := [vI 1]) (h1 := HS t m) 2 (by rfl) ?_
    exact ev_retE rfl rfl (by first | rfl | (simp [*]; done) | (split <;> first | rfl | (exfalso; omega))) (by first | rfl | (simp [*]; done) | (split <;> first | rfl | (exfalso; omega)))
  · refine ev_go (pc' := 11) (ls' := [some (vR (some 75)), some (vI ((k : Nat) : Int)), some (vI g)]) (st' := [vR (some 75)]) (h1 := HS t m) 1 (by rfl) ?_
    refine ev_getR rfl rfl (rfl : rf 75 1 = some 77) ?_
    refine ev_go (pc' := 15) (ls' := [some (vR (some 75)), some (vI ((k : Nat) : Int)), some (vI g)]) (st' := [vI ((k : Nat) : Int), vR (some 77)]) (h1 := HS t m) 1 (by rfl) ?_
    refine ev_iald (k := k) rfl rfl rfl (by omega) ?_
    refine ev_go (pc' := 17) (ls' := [some (vR (some 75)), some (vI ((k : Nat) : Int)), some (vI g)]) (st' := [vI g, vI (m 77 k)]) (h1 := HS t m) 1 (by rfl) ?_
    refine ev_ic1 rfl h hg (fun c17 => ?_) (fun c17 => ?_)
    · refine ev_go (pc' := 25) (ls' := [some (vR (some 75)), some (vI ((k : Nat) : Int)), some (vI g)]) (st' := [vI 0]) (h1 := HS t m) 1 (by rfl) ?_
      exact ev_retE rfl rfl (by first | rfl | (simp [*]; done) | (split <;> first | rfl | (exfalso; omega))) (by first | rfl | (simp [*]; done) | (split <;> first | rfl | (exfalso; omega)))
    · refine ev_go (pc' := 25) (ls' := [some (vR (some 75)), some (vI ((k : Nat) : Int)), some (vI g)]) (st' := [vI 1]) (h1 := HS t m) 2 (by rfl) ?_
      exact ev_retE rfl rfl (by first | rfl | (simp [*]; done) | (split <;> first | rfl | (exfalso; omega))) (by first | rfl | (simp [*]; done) | (split <;> first | rfl | (exfalso; omega)))
set_option maxRecDepth 10000 in
theorem c_rk_removeAll {L : Nat} {xs : Nat → Int32} {d : Nat} {t : Bool × Nat × Nat} {m : mMM} {a : Nat} (ha : RKA a) : Ev (PP L xs) d 28 0 (entL 1 [vR (some a)]) [] (HS t m) (.inl none) (HS t (up m a 2 0)) := by
  refine ev_go (pc' := 2) (ls' := [some (vR (some a))]) (st' := [vI 0, vR (some a)]) (h1 := HS t m) 2 (by rfl) ?_
  refine ev_putI rfl ha.1 ?_
  exact ev_retE rfl rfl (by first | rfl | (simp [*]; done) | (split <;> first | rfl | (exfalso; omega))) (by first | rfl | (simp [*]; done) | (split <;> first | rfl | (exfalso; omega)))
set_option maxRecDepth 10000 in
theorem c_rk_extended {L : Nat} {xs : Nat → Int32} {d : Nat} {t : Bool × Nat × Nat} {m : mMM} {p g : Int} (h0 : 0 ≤ p) (h1 : p < 268435456) (hg : 0 ≤ g) (hg2 : g < 8) : Ev (PP L xs) d 35 0 (entL 2 [vI p, vI g]) [] (HS t m) (.inl (some (vI (p * 2 ^ 3 + g)))) (HS t m) := by
  refine ev_go (pc' := 4) (ls' := [some (vI p), some (vI g)]) (st' := [vI g, vI (p * 2 ^ 3)]) (h1 := HS t m) 4 (by rfl) ?_
  refine ev_iorA 3 rfl rfl h0 (by omega) (by omega) (by omega) (by decide) ?_
  exact ev_retE rfl rfl (by first | rfl | (simp [*]; done) | (split <;> first | rfl | (exfalso; omega))) (by first | rfl | (simp [*]; done) | (split <;> first | rfl | (exfalso; omega)))
set_option maxRecDepth 10000 in
theorem c_rk_weightOf {L : Nat} {xs : Nat → Int32} {d : Nat} {t : Bool × Nat × Nat} {m : mMM} {a k n : Nat} (ha : RKA a) (hn : m a 2 = (n : Int)) (hk : k < 10) (hn10 : n ≤ 10) : Ev (PP L xs) d 33 0 (entL 2 [vR (some a), vI ((k : Nat) : Int)]) [] (HS t m) (.inl (some (vJ (if k < n then m (a + 1) k else 0)))) (HS t m) := by
  refine ev_go (pc' := 2) (ls' := [some (vR (some a)), some (vI ((k : Nat) : Int))]) (st' := [vR (some a), vI ((k : Nat) : Int)]) (h1 := HS t m) 2 (by rfl) ?_
  refine ev_getIv (v := ((n : Nat) : Int)) rfl ha.1 (hn) ?_
  refine ev_ic3 rfl (inI_of (by omega) (by omega)) (inI_of (by omega) (by omega)) (fun c5 => ?_) (fun c5 => ?_)
  · refine ev_go (pc' := 18) (ls' := [some (vR (some a)), some (vI ((k : Nat) : Int))]) (st' := [vJ 0]) (h1 := HS t m) 1 (by rfl) ?_
    exact ev_retE rfl rfl (by first | rfl | (simp [*]; done) | (split <;> first | rfl | (exfalso; omega))) (by first | rfl | (simp [*]; done) | (split <;> first | rfl | (exfalso; omega)))
  · refine ev_go (pc' := 9) (ls' := [some (vR (some a)), some (vI ((k : Nat) : Int))]) (st' := [vR (some a)]) (h1 := HS t m) 1 (by rfl) ?_
    refine ev_getR rfl ha.1 (ha.2.2.2.1 : rf a 0 = some (a + 1)) ?_
    refine ev_go (pc' := 13) (ls' := [some (vR (some a)), some (vI ((k : Nat) : Int))]) (st' := [vI ((k : Nat) : Int), vR (some (a + 1))]) (h1 := HS t m) 1 (by rfl) ?_
    refine ev_lald (k := k) rfl ha.2.1 rfl (by omega) ?_
    refine ev_go (pc' := 18) (ls' := [some (vR (some a)), some (vI ((k : Nat) : Int))]) (st' := [vJ (m (a + 1) k)]) (h1 := HS t m) 1 (by rfl) ?_
    exact ev_retE rfl rfl (by first | rfl | (simp [*]; done) | (split <;> first | rfl | (exfalso; omega))) (by first | rfl | (simp [*]; done) | (split <;> first | rfl | (exfalso; omega)))
set_option maxRecDepth 10000 in
theorem c_rk_tagOf {L : Nat} {xs : Nat → Int32} {d : Nat} {t : Bool × Nat × Nat} {m : mMM} {a k n f : Nat} (ha : RKA a) (hn : m a 2 = (n : Int)) (hk : k < 10) (hn10 : n ≤ 10) (hf : f < 5) (h0 : k < n → 0 ≤ m (a + 2) k ∧ m (a + 2) k < 2147483648) : Ev (PP L xs) d 34 0 (entL 3 [vR (some a), vI ((k : Nat) : Int), vI ((f : Nat) : Int)]) [] (HS t m) (.inl (some (vI (if k < n then m (a + 2) k / 2 ^ (3 * f) % 2 ^ 3 else -1)))) (HS t m) := by
  refine ev_go (pc' := 2) (ls' := [some (vR (some a)), some (vI ((k : Nat) : Int)), some (vI ((f : Nat) : Int))]) (st' := [vR (some a), vI ((k : Nat) : Int)]) (h1 := HS t m) 2 (by rfl) ?_
  refine ev_getIv (v := ((n : Nat) : Int)) rfl ha.1 (hn) ?_
  refine ev_ic3 rfl (inI_of (by omega) (by omega)) (inI_of (by omega) (by omega)) (fun c5 => ?_) (fun c5 => ?_)
  · refine ev_go (pc' := 25) (ls' := [some (vR (some a)), some (vI ((k : Nat) : Int)), some (vI ((f : Nat) : Int))]) (st' := [vI (-1)]) (h1 := HS t m) 1 (by rfl) ?_
    exact ev_retE rfl rfl (by have e : k < n ∨ ¬ k < n := Decidable.em _; rcases e with e | e <;> first | (exfalso; omega) | (rw [if_pos e]; try rw [toNat3]; simp) | (rw [if_neg e])) rfl
  · refine ev_go (pc' := 9) (ls' := [some (vR (some a)), some (vI ((k : Nat) : Int)), some (vI ((f : Nat) : Int))]) (st' := [vR (some a)]) (h1 := HS t m) 1 (by rfl) ?_
    refine ev_getR rfl ha.1 (ha.2.2.2.2 : rf a 1 = some (a + 2)) ?_
    refine ev_go (pc' := 13) (ls' := [some (vR (some a)), some (vI ((k : Nat) : Int)), some (vI ((f : Nat) : Int))]) (st' := [vI ((k : Nat) : Int), vR (some (a + 2))]) (h1 := HS t m) 1 (by rfl) ?_
    refine ev_iald (k := k) rfl ha.2.2.1 rfl (by omega) ?_
    refine ev_go (pc' := 17) (ls' := [some (vR (some a)), some (vI ((k : Nat) : Int)), some (vI ((f : Nat) : Int))]) (st' := [vI (3 * ((f : Nat) : Int)), vI (m (a + 2) k)]) (h1 := HS t m) 3 (by rfl) ?_
    refine ev_ishr rfl (inI_of (by have := h0 (by omega); omega) (by have := h0 (by omega); omega)) (by omega) (by omega) ?_
    refine ev_go (pc' := 20) (ls' := [some (vR (some a)), some (vI ((k : Nat) : Int)), some (vI ((f : Nat) : Int))]) (st' := [vI 7, vI ((m (a + 2) k) / 2 ^ ((3 * ((f : Nat) : Int))).toNat)]) (h1 := HS t m) 1 (by rfl) ?_
    refine ev_iandA 3 0 rfl (shr_bd (h0 (by omega)).1 (h0 (by omega)).2 _).1 (shr_bd (h0 (by omega)).1 (h0 (by omega)).2 _).2 rfl (by decide) ?_
    refine ev_go (pc' := 25) (ls' := [some (vR (some a)), some (vI ((k : Nat) : Int)), some (vI ((f : Nat) : Int))]) (st' := [vI (((m (a + 2) k) / 2 ^ ((3 * ((f : Nat) : Int))).toNat) / 2 ^ 0 % 2 ^ 3 * 2 ^ 0)]) (h1 := HS t m) 1 (by rfl) ?_
    exact ev_retE rfl rfl (by have e : k < n ∨ ¬ k < n := Decidable.em _; rcases e with e | e <;> first | (exfalso; omega) | (rw [if_pos e]; try rw [toNat3]; simp) | (rw [if_neg e])) rfl
