/-! ===== contracts: rows, likeness, rankings ===== -/
theorem cmp_in (x y : Int) : inI (if x < y then -1 else if x = y then 0 else 1) = true := inI_of (by split <;> (try split) <;> omega) (by split <;> (try split) <;> omega)
theorem cz_eq {x y : Int} (h : (if x < y then -1 else if x = y then 0 else 1 : Int) = 0) : x = y := by split at h <;> (try split at h) <;> omega
theorem cz_ne {x y : Int} (h : ¬ (if x < y then -1 else if x = y then 0 else 1 : Int) = 0) : ¬ x = y := by split at h <;> (try split at h) <;> omega
theorem cz_lt {x y : Int} (h : (if x < y then -1 else if x = y then 0 else 1 : Int) < 0) : x < y := by split at h <;> (try split at h) <;> omega
theorem cz_ge {x y : Int} (h : 0 ≤ (if x < y then -1 else if x = y then 0 else 1 : Int)) : y ≤ x := by split at h <;> (try split at h) <;> omega
theorem cz_gt {x y : Int} (h : 0 < (if x < y then -1 else if x = y then 0 else 1 : Int)) : y < x := by split at h <;> (try split at h) <;> omega
theorem cz_le {x y : Int} (h : (if x < y then -1 else if x = y then 0 else 1 : Int) ≤ 0) : x ≤ y := by split at h <;> (try split at h) <;> omega
abbrev tt (t : Bool × Nat × Nat) : Bool × Nat × Nat := (false, t.2.1 + 1, t.2.2 + 6)
def likeF (x y : Int) : Int := if x = y then 4 else if x / 2 ^ 0 % 2 ^ 5 * 2 ^ 0 = y / 2 ^ 0 % 2 ^ 5 * 2 ^ 0 then (if x / 2 ^ 5 % 2 ^ 5 * 2 ^ 5 = y / 2 ^ 5 % 2 ^ 5 * 2 ^ 5 then (if x / 2 ^ 10 % 2 ^ 5 * 2 ^ 10 = y / 2 ^ 10 % 2 ^ 5 * 2 ^ 10 then 3 else 2) else 1) else 0
theorem fld_in {x : Int} (q r : Nat) (hb : (2 : Int) ^ q * 2 ^ r ≤ 2147483648) : inI (x / 2 ^ r % 2 ^ q * 2 ^ r) = true := by
  have hp : (0 : Int) < 2 ^ q := Int.pow_pos (by decide)
  have hr : (0 : Int) < 2 ^ r := Int.pow_pos (by decide)
  have h1 : 0 ≤ x / 2 ^ r % 2 ^ q := Int.emod_nonneg _ (by omega)
  have h2 : x / 2 ^ r % 2 ^ q < 2 ^ q := Int.emod_lt_of_pos _ hp
  have h3 : 0 ≤ x / 2 ^ r % 2 ^ q * 2 ^ r := Int.mul_nonneg h1 (by omega)
  have h4 : x / 2 ^ r % 2 ^ q * 2 ^ r < 2 ^ q * 2 ^ r := Int.mul_lt_mul_of_pos_right h2 hr
  exact inI_of (by omega) (by omega)
def shiftM (m : mMM) (a lo hi : Nat) : mMM := fun b l => if (b = a + 1 ∨ b = a + 2) ∧ lo < l ∧ l ≤ hi then m b (l - 1) else m b l
theorem shiftM_self (m : mMM) (a lo hi : Nat) (h : hi ≤ lo) : shiftM m a lo hi = m := by
  funext b l; simp only [shiftM]; rw [if_neg]; omega
theorem shiftM_step (m : mMM) (a lo i : Nat) (h : lo < i + 1) : shiftM (up (up m (a + 1) (i + 1) (m (a + 1) i)) (a + 2) (i + 1) (m (a + 2) i)) a lo i = shiftM m a lo (i + 1) := by
  funext b l
  simp only [shiftM, up]
  by_cases c1 : b = a + 1
  · subst c1
    by_cases c2 : l = i + 1
    · subst c2; simp; omega
    · by_cases c3 : lo < l ∧ l ≤ i
      · have e : ¬ (l - 1 = i + 1) := by omega
        simp [c3, e, c2]; omega
      · have e : ¬ (lo < l ∧ l ≤ i + 1) := by omega
        simp [c3, e, c2]
  · by_cases c1 : b = a + 2
    · subst c1
      by_cases c2 : l = i + 1
      · subst c2; simp; omega
      · by_cases c3 : lo < l ∧ l ≤ i
        · have e : ¬ (l - 1 = i + 1) := by omega
          simp [c3, e, c2]; omega
        · have e : ¬ (lo < l ∧ l ≤ i + 1) := by omega
          simp [c3, e, c2]
    · simp [*]
def insM (m : mMM) (a n r : Nat) (w p : Int) : mMM := up (up (shiftM (up m a 2 ((min 10 (n + 1) : Nat) : Int)) a r (min 10 (n + 1) - 1)) (a + 1) r w) (a + 2) r p
theorem up_same {m : mMM} {a k : Nat} {v : Int} (h : m a k = v) : up m a k v = m := by
  funext b l; simp only [up]
  by_cases c1 : b = a
  · subst c1
    by_cases c2 : l = k
    · subst c2; simp [h]
    · simp [c2]
  · simp [c1]
def betM (m : mMM) (a : Nat) (w p : Int) (k : Nat) : Bool := decide (m (a + 1) k < w ∨ (w = m (a + 1) k ∧ p < m (a + 2) k))
def scM (m : mMM) (a : Nat) (w p : Int) : Nat → Nat
  | 0 => 0
  | k + 1 => if betM m a w p k then scM m a w p k else k + 1
theorem scM_pos {m : mMM} {a : Nat} {w p : Int} {k : Nat} (h : m (a + 1) k < w ∨ (w = m (a + 1) k ∧ p < m (a + 2) k)) : scM m a w p (k + 1) = scM m a w p k := by
  show (if betM m a w p k = true then scM m a w p k else k + 1) = _
  rw [if_pos (show betM m a w p k = true from decide_eq_true h)]
theorem scM_neg {m : mMM} {a : Nat} {w p : Int} {k : Nat} (h : ¬ (m (a + 1) k < w ∨ (w = m (a + 1) k ∧ p < m (a + 2) k))) : scM m a w p (k + 1) = k + 1 := by
  show (if betM m a w p k = true then scM m a w p k else k + 1) = _
  rw [if_neg]; simp only [betM, decide_eq_true_eq]; exact h
theorem hs_callV {i c n nx a : Nat} {as : List mMV} {ls : mLS} {st : mST} {t : Bool × Nat × Nat} {m : mMM} (hst : (st.take (n + 1)).reverse = vR (some a) :: as) (hk : kd a = (0, c)) (hn : Nat.beq as.length n = true) (hr : roomy (st.drop (n + 1)) = true) : mo_callV i c n nx ls st (HS t m) = some (.inr (.inr (.inr (i, vR (some a) :: as, nx, st.drop (n + 1))))) := by
  unfold mo_callV
  rw [hst]
  show (bif kq (HS t m) a 0 c && (Nat.beq as.length n && roomy (st.drop (n + 1))) then _ else none) = _
  rw [show kq (HS t m) a 0 c = true from kd_kq hk, hn, hr]; rfl
theorem scM_le (m : mMM) (a : Nat) (w p : Int) : ∀ k, scM m a w p k ≤ k
  | 0 => Nat.le_refl _
  | k + 1 => by
    unfold scM; split
    · exact Nat.le_succ_of_le (scM_le m a w p k)
    · exact Nat.le_refl _
def tailM (m : mMM) (a n : Nat) (w p : Int) (r : Nat) : mMM := if 0 < w ∧ r < 10 then insM m a n r w p else m
set_option maxRecDepth 10000 in
theorem c_clearRow {L : Nat} {xs : Nat → Int32} {d : Nat} {t : Bool × Nat × Nat} {m : mMM} {a : Nat} (ha : kd a = (1, 5)) : Ev (PP L xs) d 20 0 (entL 2 [vR (some a)]) [] (HS t m) (.inl none) (HS t (z5 m a)) := by
  refine ev_go (pc' := 4) (ls' := [some (vR (some a)), some (vI 0)]) (st' := [vI 5, vI 0]) (h1 := HS t m) 4 (by rfl) ?_
  refine ev_ic3 rfl rfl rfl (fun c4 => absurd c4 (by decide)) (fun c4 => ?_)
  refine ev_go (pc' := 10) (ls' := [some (vR (some a)), some (vI 0)]) (st' := [vI 0, vI 0, vR (some a)]) (h1 := HS t m) 3 (by rfl) ?_
  refine ev_iast (k := 0) rfl ha rfl (by omega) ?_
  refine ev_go (pc' := 4) (ls' := [some (vR (some a)), some (vI 1)]) (st' := [vI 5, vI 1]) (h1 := HS t (up m a 0 0)) 4 (by rfl) ?_
  refine ev_ic3 rfl rfl rfl (fun c4 => absurd c4 (by decide)) (fun c4 => ?_)
  refine ev_go (pc' := 10) (ls' := [some (vR (some a)), some (vI 1)]) (st' := [vI 0, vI 1, vR (some a)]) (h1 := HS t (up m a 0 0)) 3 (by rfl) ?_
  refine ev_iast (k := 1) rfl ha rfl (by omega) ?_
  refine ev_go (pc' := 4) (ls' := [some (vR (some a)), some (vI 2)]) (st' := [vI 5, vI 2]) (h1 := HS t (up (up m a 0 0) a 1 0)) 4 (by rfl) ?_
  refine ev_ic3 rfl rfl rfl (fun c4 => absurd c4 (by decide)) (fun c4 => ?_)
  refine ev_go (pc' := 10) (ls' := [some (vR (some a)), some (vI 2)]) (st' := [vI 0, vI 2, vR (some a)]) (h1 := HS t (up (up m a 0 0) a 1 0)) 3 (by rfl) ?_
  refine ev_iast (k := 2) rfl ha rfl (by omega) ?_
  refine ev_go (pc' := 4) (ls' := [some (vR (some a)), some (vI 3)]) (st' := [vI 5, vI 3]) (h1 := HS t (up (up (up m a 0 0) a 1 0) a 2 0)) 4 (by rfl) ?_
  refine ev_ic3 rfl rfl rfl (fun c4 => absurd c4 (by decide)) (fun c4 => ?_)
  refine ev_go (pc' := 10) (ls' := [some (vR (some a)), some (vI 3)]) (st' := [vI 0, vI 3, vR (some a)]) (h1 := HS t (up (up (up m a 0 0) a 1 0) a 2 0)) 3 (by rfl) ?_
  refine ev_iast (k := 3) rfl ha rfl (by omega) ?_
  refine ev_go (pc' := 4) (ls' := [some (vR (some a)), some (vI 4)]) (st' := [vI 5, vI 4]) (h1 := HS t (up (up (up (up m a 0 0) a 1 0) a 2 0) a 3 0)) 4 (by rfl) ?_
  refine ev_ic3 rfl rfl rfl (fun c4 => absurd c4 (by decide)) (fun c4 => ?_)
  refine ev_go (pc' := 10) (ls' := [some (vR (some a)), some (vI 4)]) (st' := [vI 0, vI 4, vR (some a)]) (h1 := HS t (up (up (up (up m a 0 0) a 1 0) a 2 0) a 3 0)) 3 (by rfl) ?_
  refine ev_iast (k := 4) rfl ha rfl (by omega) ?_
  refine ev_go (pc' := 4) (ls' := [some (vR (some a)), some (vI 5)]) (st' := [vI 5, vI 5]) (h1 := HS t (up (up (up (up (up m a 0 0) a 1 0) a 2 0) a 3 0) a 4 0)) 4 (by rfl) ?_
  refine ev_ic3 rfl rfl rfl (fun c4 => ?_) (fun c4 => absurd c4 (by decide))
  exact ev_retE rfl rfl (by first | rfl | (simp [*]; done) | (split <;> first | rfl | (exfalso; omega))) (by first | rfl | (simp [*]; done) | (split <;> first | rfl | (exfalso; omega)))
set_option maxRecDepth 10000 in
theorem c_likeness {L : Nat} {xs : Nat → Int32} {d : Nat} {t : Bool × Nat × Nat} {m : mMM} {x y : Int} (hx0 : 0 ≤ x) (hx1 : x < 2147483648) (hy0 : 0 ≤ y) (hy1 : y < 2147483648) : Ev (PP L xs) d 19 0 (entL 4 [vI x, vI y]) [] (HS t m) (.inl (some (vI (likeF x y)))) (HS t m) := by
  refine ev_go (pc' := 2) (ls' := [some (vI x), some (vI y), none, none]) (st' := [vI y, vI x]) (h1 := HS t m) 2 (by rfl) ?_
  refine ev_ic1 rfl (inI_of (by omega) (by omega)) (inI_of (by omega) (by omega)) (fun c2 => ?_) (fun c2 => ?_)
  · refine ev_go (pc' := 14) (ls' := [some (vI x), some (vI y), some (vI 0), some (vI 31)]) (st' := [vI 3, vI 0]) (h1 := HS t m) 6 (by rfl) ?_
    refine ev_ic3 rfl rfl rfl (fun c14 => absurd c14 (by decide)) (fun c14 => ?_)
    refine ev_go (pc' := 19) (ls' := [some (vI x), some (vI y), some (vI 0), some (vI 31)]) (st' := [vI 31, vI x]) (h1 := HS t m) 2 (by rfl) ?_
    refine ev_iandA 5 0 rfl hx0 hx1 rfl (by decide) ?_
    refine ev_go (pc' := 22) (ls' := [some (vI x), some (vI y), some (vI 0), some (vI 31)]) (st' := [vI 31, vI y, vI (x / 2 ^ 0 % 2 ^ 5 * 2 ^ 0)]) (h1 := HS t m) 2 (by rfl) ?_
    refine ev_iandA 5 0 rfl hy0 hy1 rfl (by decide) ?_
    refine ev_ic1 rfl (fld_in 5 0 (by decide)) (fld_in 5 0 (by decide)) (fun c23 => ?_) (fun c23 => ?_)
    · refine ev_go (pc' := 37) (ls' := [some (vI x), some (vI y), some (vI 0), some (vI 31)]) (st' := [vI 0]) (h1 := HS t m) 1 (by rfl) ?_
      exact ev_retE rfl rfl (by show _ = some (vI (likeF x y)); unfold likeF; repeat (first | rw [if_pos (by assumption)] | rw [if_neg (by assumption)])) rfl
    · refine ev_go (pc' := 14) (ls' := [some (vI x), some (vI y), some (vI 1), some (vI 992)]) (st' := [vI 3, vI 1]) (h1 := HS t m) 8 (by rfl) ?_
      refine ev_ic3 rfl rfl rfl (fun c14 => absurd c14 (by decide)) (fun c14 => ?_)
      refine ev_go (pc' := 19) (ls' := [some (vI x), some (vI y), some (vI 1), some (vI 992)]) (st' := [vI 992, vI x]) (h1 := HS t m) 2 (by rfl) ?_
      refine ev_iandA 5 5 rfl hx0 hx1 rfl (by decide) ?_
      refine ev_go (pc' := 22) (ls' := [some (vI x), some (vI y), some (vI 1), some (vI 992)]) (st' := [vI 992, vI y, vI (x / 2 ^ 5 % 2 ^ 5 * 2 ^ 5)]) (h1 := HS t m) 2 (by rfl) ?_
      refine ev_iandA 5 5 rfl hy0 hy1 rfl (by decide) ?_
      refine ev_ic1 rfl (fld_in 5 5 (by decide)) (fld_in 5 5 (by decide)) (fun c23 => ?_) (fun c23 => ?_)
      · refine ev_go (pc' := 37) (ls' := [some (vI x), some (vI y), some (vI 1), some (vI 992)]) (st' := [vI 1]) (h1 := HS t m) 1 (by rfl) ?_
        exact ev_retE rfl rfl (by show _ = some (vI (likeF x y)); unfold likeF; repeat (first | rw [if_pos (by assumption)] | rw [if_neg (by assumption)])) rfl
      · refine ev_go (pc' := 14) (ls' := [some (vI x), some (vI y), some (vI 2), some (vI 31744)]) (st' := [vI 3, vI 2]) (h1 := HS t m) 8 (by rfl) ?_
        refine ev_ic3 rfl rfl rfl (fun c14 => absurd c14 (by decide)) (fun c14 => ?_)
        refine ev_go (pc' := 19) (ls' := [some (vI x), some (vI y), some (vI 2), some (vI 31744)]) (st' := [vI 31744, vI x]) (h1 := HS t m) 2 (by rfl) ?_
        refine ev_iandA 5 10 rfl hx0 hx1 rfl (by decide) ?_
        refine ev_go (pc' := 22) (ls' := [some (vI x), some (vI y), some (vI 2), some (vI 31744)]) (st' := [vI 31744, vI y, vI (x / 2 ^ 10 % 2 ^ 5 * 2 ^ 10)]) (h1 := HS t m) 2 (by rfl) ?_
        refine ev_iandA 5 10 rfl hy0 hy1 rfl (by decide) ?_
        refine ev_ic1 rfl (fld_in 5 10 (by decide)) (fld_in 5 10 (by decide)) (fun c23 => ?_) (fun c23 => ?_)
        · refine ev_go (pc' := 37) (ls' := [some (vI x), some (vI y), some (vI 2), some (vI 31744)]) (st' := [vI 2]) (h1 := HS t m) 1 (by rfl) ?_
          exact ev_retE rfl rfl (by show _ = some (vI (likeF x y)); unfold likeF; repeat (first | rw [if_pos (by assumption)] | rw [if_neg (by assumption)])) rfl
        · refine ev_go (pc' := 14) (ls' := [some (vI x), some (vI y), some (vI 3), some (vI 1015808)]) (st' := [vI 3, vI 3]) (h1 := HS t m) 8 (by rfl) ?_
          refine ev_ic3 rfl rfl rfl (fun c14 => ?_) (fun c14 => absurd c14 (by decide))
          refine ev_go (pc' := 37) (ls' := [some (vI x), some (vI y), some (vI 3), some (vI 1015808)]) (st' := [vI 3]) (h1 := HS t m) 1 (by rfl) ?_
          exact ev_retE rfl rfl (by show _ = some (vI (likeF x y)); unfold likeF; repeat (first | rw [if_pos (by assumption)] | rw [if_neg (by assumption)])) rfl
  · refine ev_go (pc' := 6) (ls' := [some (vI x), some (vI y), none, none]) (st' := [vI 4]) (h1 := HS t m) 1 (by rfl) ?_
    exact ev_retE rfl rfl (by show _ = some (vI (likeF x y)); unfold likeF; repeat (first | rw [if_pos (by assumption)] | rw [if_neg (by assumption)])) rfl
set_option maxRecDepth 10000 in
theorem l_insert {L : Nat} {xs : Nat → Int32} {t : Bool × Nat × Nat} {d a r : Nat} {w p : Int} (ha : RKA a) : (i : Nat) → i < 10 → r ≤ i → (m : mMM) → Ev (PP L xs) d 30 27 [some (vR (some a)), some (vI (r : Int)), some (vJ w), none, some (vI p), some (vI (i : Int))] [] (HS t m) (.inl none) (HS t (up (up (shiftM m a r i) (a + 1) r w) (a + 2) r p)) := by
  intro i
  induction i with
  | zero =>
    intro h1 h2 m
    have hr : r = 0 := by omega
    subst hr
    rw [shiftM_self m a 0 0 (by omega)]
    refine ev_go (pc' := 30) (ls' := [some (vR (some a)), some (vI ((0 : Nat) : Int)), some (vJ w), none, some (vI p), some (vI ((0 : Nat) : Int))]) (st' := [vI ((0 : Nat) : Int), vI ((0 : Nat) : Int)]) (h1 := HS t m) 2 (by rfl) ?_
    refine ev_ic5 rfl (inI_of (by omega) (by omega)) (inI_of (by omega) (by omega)) (fun c30 => ?_) (fun c30 => absurd c30 (by omega))
    refine ev_go (pc' := 72) (ls' := [some (vR (some a)), some (vI ((0 : Nat) : Int)), some (vJ w), none, some (vI p), some (vI ((0 : Nat) : Int))]) (st' := [vR (some a)]) (h1 := HS t m) 1 (by rfl) ?_
    refine ev_getR rfl ha.1 (ha.2.2.2.1 : rf a 0 = some (a + 1)) ?_
    refine ev_go (pc' := 77) (ls' := [some (vR (some a)), some (vI ((0 : Nat) : Int)), some (vJ w), none, some (vI p), some (vI ((0 : Nat) : Int))]) (st' := [vJ w, vI ((0 : Nat) : Int), vR (some (a + 1))]) (h1 := HS t m) 2 (by rfl) ?_
    refine ev_last (k := 0) rfl ha.2.1 rfl (by omega) ?_
    refine ev_go (pc' := 79) (ls' := [some (vR (some a)), some (vI ((0 : Nat) : Int)), some (vJ w), none, some (vI p), some (vI ((0 : Nat) : Int))]) (st' := [vR (some a)]) (h1 := HS t (up m (a + 1) 0 w)) 1 (by rfl) ?_
    refine ev_getR rfl ha.1 (ha.2.2.2.2 : rf a 1 = some (a + 2)) ?_
    refine ev_go (pc' := 85) (ls' := [some (vR (some a)), some (vI ((0 : Nat) : Int)), some (vJ w), none, some (vI p), some (vI ((0 : Nat) : Int))]) (st' := [vI p, vI ((0 : Nat) : Int), vR (some (a + 2))]) (h1 := HS t (up m (a + 1) 0 w)) 2 (by rfl) ?_
    refine ev_iast (k := 0) rfl ha.2.2.1 rfl (by omega) ?_
    exact ev_retE rfl rfl (by first | rfl | (simp [*]; done) | (split <;> first | rfl | (exfalso; omega))) (by first | rfl | (simp [*]; done) | (split <;> first | rfl | (exfalso; omega)))
  | succ i IH =>
    intro h1 h2 m
    by_cases hr : r = i + 1
    · subst hr
      rw [shiftM_self m a (i + 1) (i + 1) (by omega)]
      refine ev_go (pc' := 30) (ls' := [some (vR (some a)), some (vI ((i + 1 : Nat) : Int)), some (vJ w), none, some (vI p), some (vI ((i + 1 : Nat) : Int))]) (st' := [vI ((i + 1 : Nat) : Int), vI ((i + 1 : Nat) : Int)]) (h1 := HS t m) 2 (by rfl) ?_
      refine ev_ic5 rfl (inI_of (by omega) (by omega)) (inI_of (by omega) (by omega)) (fun c30 => ?_) (fun c30 => absurd c30 (by omega))
      refine ev_go (pc' := 72) (ls' := [some (vR (some a)), some (vI ((i + 1 : Nat) : Int)), some (vJ w), none, some (vI p), some (vI ((i + 1 : Nat) : Int))]) (st' := [vR (some a)]) (h1 := HS t m) 1 (by rfl) ?_
      refine ev_getR rfl ha.1 (ha.2.2.2.1 : rf a 0 = some (a + 1)) ?_
      refine ev_go (pc' := 77) (ls' := [some (vR (some a)), some (vI ((i + 1 : Nat) : Int)), some (vJ w), none, some (vI p), some (vI ((i + 1 : Nat) : Int))]) (st' := [vJ w, vI ((i + 1 : Nat) : Int), vR (some (a + 1))]) (h1 := HS t m) 2 (by rfl) ?_
      refine ev_last (k := (i + 1)) rfl ha.2.1 rfl (by omega) ?_
      refine ev_go (pc' := 79) (ls' := [some (vR (some a)), some (vI ((i + 1 : Nat) : Int)), some (vJ w), none, some (vI p), some (vI ((i + 1 : Nat) : Int))]) (st' := [vR (some a)]) (h1 := HS t (up m (a + 1) (i + 1) w)) 1 (by rfl) ?_
      refine ev_getR rfl ha.1 (ha.2.2.2.2 : rf a 1 = some (a + 2)) ?_
      refine ev_go (pc' := 85) (ls' := [some (vR (some a)), some (vI ((i + 1 : Nat) : Int)), some (vJ w), none, some (vI p), some (vI ((i + 1 : Nat) : Int))]) (st' := [vI p, vI ((i + 1 : Nat) : Int), vR (some (a + 2))]) (h1 := HS t (up m (a + 1) (i + 1) w)) 2 (by rfl) ?_
      refine ev_iast (k := (i + 1)) rfl ha.2.2.1 rfl (by omega) ?_
      exact ev_retE rfl rfl (by first | rfl | (simp [*]; done) | (split <;> first | rfl | (exfalso; omega))) (by first | rfl | (simp [*]; done) | (split <;> first | rfl | (exfalso; omega)))
    · refine ev_go (pc' := 30) (ls' := [some (vR (some a)), some (vI ((r : Nat) : Int)), some (vJ w), none, some (vI p), some (vI ((i + 1 : Nat) : Int))]) (st' := [vI ((r : Nat) : Int), vI ((i + 1 : Nat) : Int)]) (h1 := HS t m) 2 (by rfl) ?_
      refine ev_ic5 rfl (inI_of (by omega) (by omega)) (inI_of (by omega) (by omega)) (fun c30 => absurd c30 (by omega)) (fun c30 => ?_)
      refine ev_go (pc' := 34) (ls' := [some (vR (some a)), some (vI ((r : Nat) : Int)), some (vJ w), none, some (vI p), some (vI ((i + 1 : Nat) : Int))]) (st' := [vR (some a)]) (h1 := HS t m) 1 (by rfl) ?_
      refine ev_getR rfl ha.1 (ha.2.2.2.1 : rf a 0 = some (a + 1)) ?_
      refine ev_go (pc' := 40) (ls' := [some (vR (some a)), some (vI ((r : Nat) : Int)), some (vJ w), none, some (vI p), some (vI ((i + 1 : Nat) : Int))]) (st' := [vR (some a), vI ((i + 1 : Nat) : Int), vR (some (a + 1))]) (h1 := HS t m) 2 (by rfl) ?_
      refine ev_getR rfl ha.1 (ha.2.2.2.1 : rf a 0 = some (a + 1)) ?_
      refine ev_go (pc' := 47) (ls' := [some (vR (some a)), some (vI ((r : Nat) : Int)), some (vJ w), none, some (vI p), some (vI ((i + 1 : Nat) : Int))]) (st' := [vI (((i + 1 : Nat) : Int) - 1), vR (some (a + 1)), vI ((i + 1 : Nat) : Int), vR (some (a + 1))]) (h1 := HS t m) 3 (by rfl) ?_
      refine ev_lald (k := i) rfl ha.2.1 (by omega) (by omega) ?_
      refine ev_last (k := (i + 1)) rfl ha.2.1 rfl (by omega) ?_
      refine ev_go (pc' := 50) (ls' := [some (vR (some a)), some (vI ((r : Nat) : Int)), some (vJ w), none, some (vI p), some (vI ((i + 1 : Nat) : Int))]) (st' := [vR (some a)]) (h1 := HS t (up m (a + 1) (i + 1) (m (a + 1) i))) 1 (by rfl) ?_
      refine ev_getR rfl ha.1 (ha.2.2.2.2 : rf a 1 = some (a + 2)) ?_
      refine ev_go (pc' := 56) (ls' := [some (vR (some a)), some (vI ((r : Nat) : Int)), some (vJ w), none, some (vI p), some (vI ((i + 1 : Nat) : Int))]) (st' := [vR (some a), vI ((i + 1 : Nat) : Int), vR (some (a + 2))]) (h1 := HS t (up m (a + 1) (i + 1) (m (a + 1) i))) 2 (by rfl) ?_
      refine ev_getR rfl ha.1 (ha.2.2.2.2 : rf a 1 = some (a + 2)) ?_
      refine ev_go (pc' := 63) (ls' := [some (vR (some a)), some (vI ((r : Nat) : Int)), some (vJ w), none, some (vI p), some (vI ((i + 1 : Nat) : Int))]) (st' := [vI (((i + 1 : Nat) : Int) - 1), vR (some (a + 2)), vI ((i + 1 : Nat) : Int), vR (some (a + 2))]) (h1 := HS t (up m (a + 1) (i + 1) (m (a + 1) i))) 3 (by rfl) ?_
      refine ev_ialdv (k := i) (v := (m (a + 2) i)) rfl ha.2.2.1 (by omega) (by omega) (up_ne1 _ _ (by omega)) ?_
      refine ev_iast (k := (i + 1)) rfl ha.2.2.1 rfl (by omega) ?_
      refine ev_go (pc' := 27) (ls' := [some (vR (some a)), some (vI ((r : Nat) : Int)), some (vJ w), none, some (vI p), some (vI (((i + 1 : Nat) : Int) + (-1)))]) (st' := []) (h1 := HS t (up (up m (a + 1) (i + 1) (m (a + 1) i)) (a + 2) (i + 1) (m (a + 2) i))) 2 (by rfl) ?_
      rw [show (((i + 1 : Nat) : Int) + (-1)) = (i : Int) by omega]
      rw [← shiftM_step m a r i (by omega)]
      exact IH (by omega) (by omega) _
set_option maxRecDepth 10000 in
theorem c_rk_insert {L : Nat} {xs : Nat → Int32} {d : Nat} {t : Bool × Nat × Nat} {m : mMM} {a n r : Nat} {w p : Int} (ha : RKA a) (hn : m a 2 = (n : Int)) (hn10 : n ≤ 10) (hr : r ≤ n) (hr9 : r < 10) : Ev (PP L xs) d 30 0 (entL 6 [vR (some a), vI ((r : Nat) : Int), vJ w, vI p]) [] (HS t m) (.inl none) (HS t (insM m a n r w p)) := by
  refine ev_go (pc' := 1) (ls' := [some (vR (some a)), some (vI ((r : Nat) : Int)), some (vJ w), none, some (vI p), none]) (st' := [vR (some a)]) (h1 := HS t m) 1 (by rfl) ?_
  refine ev_getIv (v := ((n : Nat) : Int)) rfl ha.1 (hn) ?_
  refine ev_go (pc' := 6) (ls' := [some (vR (some a)), some (vI ((r : Nat) : Int)), some (vJ w), none, some (vI p), none]) (st' := [vI 10, vI ((n : Nat) : Int)]) (h1 := HS t m) 1 (by rfl) ?_
  refine ev_ic3 rfl (inI_of (by omega) (by omega)) rfl (fun c6 => ?_) (fun c6 => ?_)
  · refine ev_go (pc' := 20) (ls' := [some (vR (some a)), some (vI ((r : Nat) : Int)), some (vJ w), none, some (vI p), none]) (st' := [vR (some a)]) (h1 := HS t m) 1 (by rfl) ?_
    refine ev_getIv (v := ((n : Nat) : Int)) rfl ha.1 (hn) ?_
    refine ev_go (pc' := 27) (ls' := [some (vR (some a)), some (vI ((r : Nat) : Int)), some (vJ w), none, some (vI p), some (vI (((n : Nat) : Int) - 1))]) (st' := []) (h1 := HS t m) 3 (by rfl) ?_
    have e2 : up m a 2 ((min 10 (n + 1) : Nat) : Int) = m := up_same (by rw [hn]; omega)
    have e : (((n : Nat) : Int) - 1 : Int) = ((min 10 (n + 1) - 1 : Nat) : Int) := by omega
    rw [e]
    unfold insM
    rw [e2]
    exact l_insert ha _ (by omega) (by omega) _
  · refine ev_go (pc' := 11) (ls' := [some (vR (some a)), some (vI ((r : Nat) : Int)), some (vJ w), none, some (vI p), none]) (st' := [vR (some a), vR (some a)]) (h1 := HS t m) 2 (by rfl) ?_
    refine ev_getIv (v := ((n : Nat) : Int)) rfl ha.1 (hn) ?_
    refine ev_go (pc' := 16) (ls' := [some (vR (some a)), some (vI ((r : Nat) : Int)), some (vJ w), none, some (vI p), none]) (st' := [vI ((n + 1 : Nat) : Int), vR (some a)]) (h1 := HS t m) 2 (by rfl) ?_
    refine ev_putI rfl ha.1 ?_
    refine ev_go (pc' := 20) (ls' := [some (vR (some a)), some (vI ((r : Nat) : Int)), some (vJ w), none, some (vI p), none]) (st' := [vR (some a)]) (h1 := HS t (up m a 2 ((n + 1 : Nat) : Int))) 1 (by rfl) ?_
    refine ev_getIv (v := ((n + 1 : Nat) : Int)) rfl ha.1 (up_eq _ _ _ _) ?_
    refine ev_go (pc' := 27) (ls' := [some (vR (some a)), some (vI ((r : Nat) : Int)), some (vJ w), none, some (vI p), some (vI (((n + 1 : Nat) : Int) - 1))]) (st' := []) (h1 := HS t (up m a 2 ((n + 1 : Nat) : Int))) 3 (by rfl) ?_
    have e : (((n + 1 : Nat) : Int) - 1 : Int) = ((min 10 (n + 1) - 1 : Nat) : Int) := by omega
    have e2 : (((n + 1 : Nat) : Int) : Int) = ((min 10 (n + 1) : Nat) : Int) := by omega
    rw [e, e2]
    exact l_insert ha _ (by omega) (by omega) _
set_option maxRecDepth 10000 in
theorem l_offer_tail {L : Nat} {xs : Nat → Int32} {t : Bool × Nat × Nat} {d a n r : Nat} {w p : Int} {m : mMM} (ha : RKA a) (hn : m a 2 = (n : Int)) (hn10 : n ≤ 10) (hw : inJ w = true) (hp : inI p = true) (hr : r ≤ n) : Ev (PP L xs) (d + 1) 29 58 [some (vR (some a)), some (vJ w), none, some (vI p), some (vI (r : Int))] [] (HS t m) (.inl none) (HS t (tailM m a n w p r)) := by
  refine ev_go (pc' := 60) (ls' := [some (vR (some a)), some (vJ w), none, some (vI p), some (vI ((r : Nat) : Int))]) (st' := [vJ 0, vJ w]) (h1 := HS t m) 2 (by rfl) ?_
  refine ev_lcmp rfl hw rfl ?_
  refine ev_if5 rfl (cmp_in _ _) (fun c61 => ?_) (fun c61 => ?_)
  · have c61 := cz_le c61
    exact ev_retE rfl rfl rfl (by unfold tailM; first | rw [if_pos (by omega)] | rw [if_neg (by omega)])
  · have c61 := cz_gt c61
    refine ev_go (pc' := 68) (ls' := [some (vR (some a)), some (vJ w), none, some (vI p), some (vI ((r : Nat) : Int))]) (st' := [vI 10, vI ((r : Nat) : Int)]) (h1 := HS t m) 2 (by rfl) ?_
    refine ev_ic3 rfl (inI_of (by omega) (by omega)) rfl (fun c68 => ?_) (fun c68 => ?_)
    · exact ev_retE rfl rfl rfl (by unfold tailM; first | rw [if_pos (by omega)] | rw [if_neg (by omega)])
    · refine ev_go (pc' := 76) (ls' := [some (vR (some a)), some (vJ w), none, some (vI p), some (vI ((r : Nat) : Int))]) (st' := [vI p, vJ w, vI ((r : Nat) : Int), vR (some a)]) (h1 := HS t m) 4 (by rfl) ?_
      refine ev_call rfl (hs_callV (i := 30) (c := 3) (n := 3) (nx := 79) (a := a) (as := [vI ((r : Nat) : Int), vJ w, vI p]) (ls := [some (vR (some a)), some (vJ w), none, some (vI p), some (vI ((r : Nat) : Int))]) (st := [vI p, vJ w, vI ((r : Nat) : Int), vR (some a)]) rfl ha.1 rfl rfl) (Nat.le_of_ble_eq_true rfl) (c_rk_insert (n := n) (w := w) (p := p) ha hn hn10 hr (by omega)) ⟨Nat.le_refl _, Nat.le_refl _⟩ ?_
      show Ev (PP L xs) _ 29 79 [some (vR (some a)), some (vJ w), none, some (vI p), some (vI ((r : Nat) : Int))] [] (HS t (insM m a n r w p)) _ _
      exact ev_retE rfl rfl rfl (by unfold tailM; first | rw [if_pos (by omega)] | rw [if_neg (by omega)])
set_option maxRecDepth 10000 in
theorem l_offer {L : Nat} {xs : Nat → Int32} {t : Bool × Nat × Nat} {d a n : Nat} {w p : Int} {m : mMM} (ha : RKA a) (hn : m a 2 = (n : Int)) (hn10 : n ≤ 10) (hw : inJ w = true) (hp : inI p = true) (hm : ∀ k, k < n → inJ (m (a + 1) k) = true ∧ inI (m (a + 2) k) = true) : (i : Nat) → i ≤ n → Ev (PP L xs) (d + 1) 29 6 [some (vR (some a)), some (vJ w), none, some (vI p), some (vI (i : Int))] [] (HS t m) (.inl none) (HS t (tailM m a n w p (scM m a w p i))) := by
  intro i
  induction i with
  | zero =>
    intro hi
    refine ev_go (pc' := 8) (ls' := [some (vR (some a)), some (vJ w), none, some (vI p), some (vI ((0 : Nat) : Int))]) (st' := [vI ((0 : Nat) : Int)]) (h1 := HS t m) 1 (by rfl) ?_
    refine ev_if5 rfl (inI_of (by omega) (by omega)) (fun c8 => ?_) (fun c8 => absurd c8 (by omega))
    exact l_offer_tail ha hn hn10 hw hp (by omega)
  | succ i IH =>
    intro hi
    refine ev_go (pc' := 8) (ls' := [some (vR (some a)), some (vJ w), none, some (vI p), some (vI ((i + 1 : Nat) : Int))]) (st' := [vI ((i + 1 : Nat) : Int)]) (h1 := HS t m) 1 (by rfl) ?_
    refine ev_if5 rfl (inI_of (by omega) (by omega)) (fun c8 => absurd c8 (by omega)) (fun c8 => ?_)
    refine ev_go (pc' := 13) (ls' := [some (vR (some a)), some (vJ w), none, some (vI p), some (vI ((i + 1 : Nat) : Int))]) (st' := [vR (some a), vJ w]) (h1 := HS t m) 2 (by rfl) ?_
    refine ev_getR rfl ha.1 (ha.2.2.2.1 : rf a 0 = some (a + 1)) ?_
    refine ev_go (pc' := 20) (ls' := [some (vR (some a)), some (vJ w), none, some (vI p), some (vI ((i + 1 : Nat) : Int))]) (st' := [vI (((i + 1 : Nat) : Int) - 1), vR (some (a + 1)), vJ w]) (h1 := HS t m) 3 (by rfl) ?_
    refine ev_lald (k := i) rfl ha.2.1 (by omega) (by omega) ?_
    refine ev_lcmp rfl hw (hm i (by omega)).1 ?_
    refine ev_if4 rfl (cmp_in _ _) (fun c22 => ?_) (fun c22 => ?_)
    · have c22 := cz_gt c22
      refine ev_go (pc' := 6) (ls' := [some (vR (some a)), some (vJ w), none, some (vI p), some (vI (((i + 1 : Nat) : Int) + (-1)))]) (st' := []) (h1 := HS t m) 2 (by rfl) ?_
      rw [show (((i + 1 : Nat) : Int) + (-1)) = (i : Int) by omega]
      rw [scM_pos (by omega)]
      exact IH (by omega)
    · have c22 := cz_le c22
      refine ev_go (pc' := 27) (ls' := [some (vR (some a)), some (vJ w), none, some (vI p), some (vI ((i + 1 : Nat) : Int))]) (st' := [vR (some a), vJ w]) (h1 := HS t m) 2 (by rfl) ?_
      refine ev_getR rfl ha.1 (ha.2.2.2.1 : rf a 0 = some (a + 1)) ?_
      refine ev_go (pc' := 34) (ls' := [some (vR (some a)), some (vJ w), none, some (vI p), some (vI ((i + 1 : Nat) : Int))]) (st' := [vI (((i + 1 : Nat) : Int) - 1), vR (some (a + 1)), vJ w]) (h1 := HS t m) 3 (by rfl) ?_
      refine ev_lald (k := i) rfl ha.2.1 (by omega) (by omega) ?_
      refine ev_lcmp rfl hw (hm i (by omega)).1 ?_
      refine ev_if1 rfl (cmp_in _ _) (fun c36 => ?_) (fun c36 => ?_)
      · have c36 := cz_ne c36
        rw [scM_neg (by omega)]
        exact l_offer_tail ha hn hn10 hw hp (by omega)
      · have c36 := cz_eq c36
        refine ev_go (pc' := 41) (ls' := [some (vR (some a)), some (vJ w), none, some (vI p), some (vI ((i + 1 : Nat) : Int))]) (st' := [vR (some a), vI p]) (h1 := HS t m) 2 (by rfl) ?_
        refine ev_getR rfl ha.1 (ha.2.2.2.2 : rf a 1 = some (a + 2)) ?_
        refine ev_go (pc' := 48) (ls' := [some (vR (some a)), some (vJ w), none, some (vI p), some (vI ((i + 1 : Nat) : Int))]) (st' := [vI (((i + 1 : Nat) : Int) - 1), vR (some (a + 2)), vI p]) (h1 := HS t m) 3 (by rfl) ?_
        refine ev_iald (k := i) rfl ha.2.2.1 (by omega) (by omega) ?_
        refine ev_ic3 rfl hp (hm i (by omega)).2 (fun c49 => ?_) (fun c49 => ?_)
        · rw [scM_neg (by omega)]
          exact l_offer_tail ha hn hn10 hw hp (by omega)
        · refine ev_go (pc' := 6) (ls' := [some (vR (some a)), some (vJ w), none, some (vI p), some (vI (((i + 1 : Nat) : Int) + (-1)))]) (st' := []) (h1 := HS t m) 2 (by rfl) ?_
          rw [show (((i + 1 : Nat) : Int) + (-1)) = (i : Int) by omega]
          rw [scM_pos (by omega)]
          exact IH (by omega)
set_option maxRecDepth 10000 in
theorem c_rk_offer {L : Nat} {xs : Nat → Int32} {d : Nat} {t : Bool × Nat × Nat} {m : mMM} {a n : Nat} {w p : Int} (ha : RKA a) (hn : m a 2 = (n : Int)) (hn10 : n ≤ 10) (hw : inJ w = true) (hp : inI p = true) (hm : ∀ k, k < n → inJ (m (a + 1) k) = true ∧ inI (m (a + 2) k) = true) : Ev (PP L xs) (d + 1) 29 0 (entL 5 [vR (some a), vJ w, vI p]) [] (HS t m) (.inl none) (HS t (tailM m a n w p (scM m a w p n))) := by
  refine ev_go (pc' := 1) (ls' := [some (vR (some a)), some (vJ w), none, some (vI p), none]) (st' := [vR (some a)]) (h1 := HS t m) 1 (by rfl) ?_
  refine ev_getIv (v := ((n : Nat) : Int)) rfl ha.1 (hn) ?_
  refine ev_go (pc' := 6) (ls' := [some (vR (some a)), some (vJ w), none, some (vI p), some (vI ((n : Nat) : Int))]) (st' := []) (h1 := HS t m) 1 (by rfl) ?_
  exact l_offer ha hn hn10 hw hp hm n (Nat.le_refl _)
