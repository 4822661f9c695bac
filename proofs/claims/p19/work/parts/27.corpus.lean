/-! ===== the corpus: steps, and what changes when a text counts ===== -/
def SR (m : mMM) (s : Nat → Nat → Int) : Prop := ∀ g, g < 5 → ∀ h, h < 5 → m (7 + g) h = s g h
def stI (by_ : Int) (s : Nat → Nat → Int) (g h : Nat) : Nat → Nat → Int := fun g' h' => if g' = g ∧ h' = h then s g' h' + by_ else s g' h'
def chF (by_ : Int) (l : List (Int × Nat)) : Nat → Nat → (Nat → Nat → Int) → (Nat → Nat → Int)
  | 0, _, s => s
  | c + 1, i, s => chF by_ l c (i + 1) (stI by_ s (gt l (i - 1)).2 (gt l i).2)
def FRs (m m' : mMM) : Prop := ∀ b k, ¬ (7 ≤ b ∧ b ≤ 11) → m' b k = m b k
theorem SR_up {m : mMM} {s : Nat → Nat → Int} (hs : SR m s) {g h : Nat} (hg : g < 5) (hh : h < 5) (by_ : Int) : SR (up m (7 + g) h (m (7 + g) h + by_)) (stI by_ s g h) := by
  intro g' hg' h' hh'
  unfold stI
  by_cases c : g' = g ∧ h' = h
  · rw [c.1, c.2, up_eq, if_pos ⟨rfl, rfl⟩, hs g hg h hh]
  · rw [if_neg c, up_ne _ _ (by omega), hs g' hg' h' hh']
set_option maxRecDepth 10000 in
theorem c_isTag1 {L : Nat} {xs : Nat → Int32} {d : Nat} {t : Bool × Nat × Nat} {m : mMM} {g : Nat} (hg : g < 5) : Ev (PP L xs) d 84 0 (entL 1 [vI ((g : Nat) : Int)]) [] (HS t m) (.inl (some (vI 1))) (HS t m) := by
  refine ev_go (pc' := 1) (ls' := [some (vI ((g : Nat) : Int))]) (st' := [vI ((g : Nat) : Int)]) (h1 := HS t m) 1 (by rfl) ?_
  refine ev_if2 rfl (inI_of (by omega) (by omega)) (fun c1 => absurd c1 (by omega)) (fun c1 => ?_)
  refine ev_go (pc' := 6) (ls' := [some (vI ((g : Nat) : Int))]) (st' := [vI 5, vI ((g : Nat) : Int)]) (h1 := HS t m) 2 (by rfl) ?_
  refine ev_ic3 rfl (inI_of (by omega) (by omega)) rfl (fun c6 => absurd c6 (by omega)) (fun c6 => ?_)
  refine ev_go (pc' := 14) (ls' := [some (vI ((g : Nat) : Int))]) (st' := [vI 1]) (h1 := HS t m) 2 (by rfl) ?_
  exact ev_retE rfl rfl (by first | rfl | (simp [*]; done) | (split <;> first | rfl | (exfalso; omega))) (by first | rfl | (simp [*]; done) | (split <;> first | rfl | (exfalso; omega)))
set_option maxRecDepth 10000 in
theorem c_isTagN {L : Nat} {xs : Nat → Int32} {d : Nat} {t : Bool × Nat × Nat} {m : mMM} {x : Int} (hx : inI x = true) (h0 : x < 0) : Ev (PP L xs) d 84 0 (entL 1 [vI x]) [] (HS t m) (.inl (some (vI 0))) (HS t m) := by
  refine ev_go (pc' := 1) (ls' := [some (vI x)]) (st' := [vI x]) (h1 := HS t m) 1 (by rfl) ?_
  refine ev_if2 rfl hx (fun c1 => ?_) (fun c1 => absurd c1 (by omega))
  refine ev_go (pc' := 14) (ls' := [some (vI x)]) (st' := [vI 0]) (h1 := HS t m) 1 (by rfl) ?_
  exact ev_retE rfl rfl (by first | rfl | (simp [*]; done) | (split <;> first | rfl | (exfalso; omega))) (by first | rfl | (simp [*]; done) | (split <;> first | rfl | (exfalso; omega)))
set_option maxRecDepth 10000 in
theorem c_isTagB {L : Nat} {xs : Nat → Int32} {d : Nat} {t : Bool × Nat × Nat} {m : mMM} {x : Int} (hx : inI x = true) (h0 : 5 ≤ x) : Ev (PP L xs) d 84 0 (entL 1 [vI x]) [] (HS t m) (.inl (some (vI 0))) (HS t m) := by
  refine ev_go (pc' := 1) (ls' := [some (vI x)]) (st' := [vI x]) (h1 := HS t m) 1 (by rfl) ?_
  refine ev_if2 rfl hx (fun c1 => absurd c1 (by omega)) (fun c1 => ?_)
  refine ev_go (pc' := 6) (ls' := [some (vI x)]) (st' := [vI 5, vI x]) (h1 := HS t m) 2 (by rfl) ?_
  refine ev_ic3 rfl hx rfl (fun c6 => ?_) (fun c6 => absurd c6 (by omega))
  refine ev_go (pc' := 14) (ls' := [some (vI x)]) (st' := [vI 0]) (h1 := HS t m) 1 (by rfl) ?_
  exact ev_retE rfl rfl (by first | rfl | (simp [*]; done) | (split <;> first | rfl | (exfalso; omega))) (by first | rfl | (simp [*]; done) | (split <;> first | rfl | (exfalso; omega)))
set_option maxRecDepth 10000 in
theorem c_stepW {L : Nat} {xs : Nat → Int32} {d : Nat} {t : Bool × Nat × Nat} {m : mMM} {g h : Nat} (hg : g < 5) (hh : h < 5) (h0 : 0 ≤ m (7 + g) h) (h1 : m (7 + g) h ≤ 1000) : Ev (PP L xs) (d + 1) 15 0 (entL 4 [vR (some 3), vI ((g : Nat) : Int), vI ((h : Nat) : Int)]) [] (HS t m) (.inl (some (vI (if m (7 + g) h + 1 < 7 then m (7 + g) h + 1 else 7)))) (HS t m) := by
  refine ev_go (pc' := 1) (ls' := [some (vR (some 3)), some (vI ((g : Nat) : Int)), some (vI ((h : Nat) : Int)), none]) (st' := [vI ((g : Nat) : Int)]) (h1 := HS t m) 1 (by rfl) ?_
  refine ev_call rfl rfl (Nat.le_of_ble_eq_true rfl) (c_isTag1 hg) ⟨Nat.le_refl _, Nat.le_refl _⟩ ?_
  show Ev (PP L xs) _ 15 4 [some (vR (some 3)), some (vI ((g : Nat) : Int)), some (vI ((h : Nat) : Int)), none] [vI 1] (HS t m) _ _
  refine ev_if0 rfl rfl (fun c4 => absurd c4 (by decide)) (fun c4 => ?_)
  refine ev_go (pc' := 8) (ls' := [some (vR (some 3)), some (vI ((g : Nat) : Int)), some (vI ((h : Nat) : Int)), none]) (st' := [vR (some 3)]) (h1 := HS t m) 1 (by rfl) ?_
  refine ev_getR rfl rfl (rfl : rf 3 2 = some 6) ?_
  refine ev_go (pc' := 12) (ls' := [some (vR (some 3)), some (vI ((g : Nat) : Int)), some (vI ((h : Nat) : Int)), none]) (st' := [vI ((g : Nat) : Int), vR (some 6)]) (h1 := HS t m) 1 (by rfl) ?_
  refine ev_aald (k := g) rfl rfl rfl (by omega) ((rf_rows g hg).1 : rf 6 g = some (7 + g)) ?_
  refine ev_go (pc' := 14) (ls' := [some (vR (some 3)), some (vI ((g : Nat) : Int)), some (vI ((h : Nat) : Int)), none]) (st' := [vI ((h : Nat) : Int), vR (some (7 + g))]) (h1 := HS t m) 1 (by rfl) ?_
  refine ev_iald (k := h) rfl (kd_rows g hg).1 rfl (by omega) ?_
  refine ev_go (pc' := 30) (ls' := [some (vR (some 3)), some (vI ((g : Nat) : Int)), some (vI ((h : Nat) : Int)), some (vI (m (7 + g) h))]) (st' := [vI ((m (7 + g) h) + 1), vI 7]) (h1 := HS t m) 6 (by rfl) ?_
  refine ev_min rfl rfl (inI_of (by omega) (by omega)) rfl ?_
  exact ev_retE rfl rfl (by first | rfl | (simp [*]; done) | (split <;> first | rfl | (exfalso; omega))) (by first | rfl | (simp [*]; done) | (split <;> first | rfl | (exfalso; omega)))
set_option maxRecDepth 10000 in
theorem c_stepF {L : Nat} {xs : Nat → Int32} {d : Nat} {t : Bool × Nat × Nat} {m : mMM} {h : Nat} (hh : h < 5) (h0 : 0 ≤ m 5 h) (h1 : m 5 h ≤ 1000) : Ev (PP L xs) (d + 1) 15 0 (entL 4 [vR (some 3), vI (-1), vI ((h : Nat) : Int)]) [] (HS t m) (.inl (some (vI (if m 5 h + 1 < 7 then m 5 h + 1 else 7)))) (HS t m) := by
  refine ev_go (pc' := 1) (ls' := [some (vR (some 3)), some (vI (-1)), some (vI ((h : Nat) : Int)), none]) (st' := [vI (-1)]) (h1 := HS t m) 1 (by rfl) ?_
  refine ev_call rfl rfl (Nat.le_of_ble_eq_true rfl) (c_isTagN rfl (by decide)) ⟨Nat.le_refl _, Nat.le_refl _⟩ ?_
  show Ev (PP L xs) _ 15 4 [some (vR (some 3)), some (vI (-1)), some (vI ((h : Nat) : Int)), none] [vI 0] (HS t m) _ _
  refine ev_if0 rfl rfl (fun c4 => ?_) (fun c4 => absurd c4 (by decide))
  refine ev_go (pc' := 19) (ls' := [some (vR (some 3)), some (vI (-1)), some (vI ((h : Nat) : Int)), none]) (st' := [vR (some 3)]) (h1 := HS t m) 1 (by rfl) ?_
  refine ev_getR rfl rfl (rfl : rf 3 1 = some 5) ?_
  refine ev_go (pc' := 23) (ls' := [some (vR (some 3)), some (vI (-1)), some (vI ((h : Nat) : Int)), none]) (st' := [vI ((h : Nat) : Int), vR (some 5)]) (h1 := HS t m) 1 (by rfl) ?_
  refine ev_iald (k := h) rfl rfl rfl (by omega) ?_
  refine ev_go (pc' := 30) (ls' := [some (vR (some 3)), some (vI (-1)), some (vI ((h : Nat) : Int)), some (vI (m 5 h))]) (st' := [vI ((m 5 h) + 1), vI 7]) (h1 := HS t m) 5 (by rfl) ?_
  refine ev_min rfl rfl (inI_of (by omega) (by omega)) rfl ?_
  exact ev_retE rfl rfl (by first | rfl | (simp [*]; done) | (split <;> first | rfl | (exfalso; omega))) (by first | rfl | (simp [*]; done) | (split <;> first | rfl | (exfalso; omega)))
set_option maxRecDepth 10000 in
theorem c_co_draft {L : Nat} {xs : Nat → Int32} {d : Nat} {t : Bool × Nat × Nat} {m : mMM} {n : Nat} (hn : m 3 3 = (n : Int)) (hn21 : n < 21) : Ev (PP L xs) d 8 0 (entL 1 [vR (some 3)]) [] (HS t m) (.inl (some (vR (some (tx n))))) (HS t m) := by
  refine ev_go (pc' := 1) (ls' := [some (vR (some 3))]) (st' := [vR (some 3)]) (h1 := HS t m) 1 (by rfl) ?_
  refine ev_getR rfl rfl (rfl : rf 3 0 = some 4) ?_
  refine ev_go (pc' := 5) (ls' := [some (vR (some 3))]) (st' := [vR (some 3), vR (some 4)]) (h1 := HS t m) 1 (by rfl) ?_
  refine ev_getIv (v := ((n : Nat) : Int)) rfl rfl (hn) ?_
  refine ev_aald (k := n) rfl rfl rfl (by omega) ((rf_tx n (by omega)).1 : rf 4 n = some (tx n)) ?_
  exact ev_retE rfl rfl (by first | rfl | (simp [*]; done) | (split <;> first | rfl | (exfalso; omega))) (by first | rfl | (simp [*]; done) | (split <;> first | rfl | (exfalso; omega)))
set_option maxRecDepth 10000 in
theorem c_co_isFull {L : Nat} {xs : Nat → Int32} {d : Nat} {t : Bool × Nat × Nat} {m : mMM} {n : Nat} (hn : m 3 3 = (n : Int)) (hn21 : n < 21) : Ev (PP L xs) d 9 0 (entL 1 [vR (some 3)]) [] (HS t m) (.inl (some (vI (if 20 ≤ n then 1 else 0)))) (HS t m) := by
  refine ev_go (pc' := 1) (ls' := [some (vR (some 3))]) (st' := [vR (some 3)]) (h1 := HS t m) 1 (by rfl) ?_
  refine ev_getIv (v := ((n : Nat) : Int)) rfl rfl (hn) ?_
  refine ev_go (pc' := 6) (ls' := [some (vR (some 3))]) (st' := [vI 20, vI ((n : Nat) : Int)]) (h1 := HS t m) 1 (by rfl) ?_
  refine ev_ic2 rfl (inI_of (by omega) (by omega)) rfl (fun c6 => ?_) (fun c6 => ?_)
  · refine ev_go (pc' := 14) (ls' := [some (vR (some 3))]) (st' := [vI 0]) (h1 := HS t m) 1 (by rfl) ?_
    exact ev_retE rfl rfl (by first | rfl | (simp [*]; done) | (split <;> first | rfl | (exfalso; omega))) (by first | rfl | (simp [*]; done) | (split <;> first | rfl | (exfalso; omega)))
  · refine ev_go (pc' := 14) (ls' := [some (vR (some 3))]) (st' := [vI 1]) (h1 := HS t m) 2 (by rfl) ?_
    exact ev_retE rfl rfl (by first | rfl | (simp [*]; done) | (split <;> first | rfl | (exfalso; omega))) (by first | rfl | (simp [*]; done) | (split <;> first | rfl | (exfalso; omega)))
set_option maxRecDepth 10000 in
theorem c_co_holds {L : Nat} {xs : Nat → Int32} {d : Nat} {t : Bool × Nat × Nat} {m : mMM} {n : Nat} {x : Int} (hn : m 3 3 = (n : Int)) (hn21 : n < 21) (hx : inI x = true) : Ev (PP L xs) d 10 0 (entL 2 [vR (some 3), vI x]) [] (HS t m) (.inl (some (vI (if 0 ≤ x ∧ x < n then 1 else 0)))) (HS t m) := by
  refine ev_go (pc' := 1) (ls' := [some (vR (some 3)), some (vI x)]) (st' := [vI x]) (h1 := HS t m) 1 (by rfl) ?_
  refine ev_if2 rfl hx (fun c1 => ?_) (fun c1 => ?_)
  · refine ev_go (pc' := 17) (ls' := [some (vR (some 3)), some (vI x)]) (st' := [vI 0]) (h1 := HS t m) 1 (by rfl) ?_
    exact ev_retE rfl rfl (by first | rw [if_pos (by omega)] | rw [if_neg (by omega)]) rfl
  · refine ev_go (pc' := 6) (ls' := [some (vR (some 3)), some (vI x)]) (st' := [vR (some 3), vI x]) (h1 := HS t m) 2 (by rfl) ?_
    refine ev_getIv (v := ((n : Nat) : Int)) rfl rfl (hn) ?_
    refine ev_ic3 rfl hx (inI_of (by omega) (by omega)) (fun c9 => ?_) (fun c9 => ?_)
    · refine ev_go (pc' := 17) (ls' := [some (vR (some 3)), some (vI x)]) (st' := [vI 0]) (h1 := HS t m) 1 (by rfl) ?_
      exact ev_retE rfl rfl (by first | rw [if_pos (by omega)] | rw [if_neg (by omega)]) rfl
    · refine ev_go (pc' := 17) (ls' := [some (vR (some 3)), some (vI x)]) (st' := [vI 1]) (h1 := HS t m) 2 (by rfl) ?_
      exact ev_retE rfl rfl (by first | rw [if_pos (by omega)] | rw [if_neg (by omega)]) rfl
set_option maxRecDepth 10000 in
theorem c_co_counting {L : Nat} {xs : Nat → Int32} {d : Nat} {t : Bool × Nat × Nat} {m : mMM}  : Ev (PP L xs) d 11 0 (entL 1 [vR (some 3)]) [] (HS t m) (.inl (some (vI (m 3 4)))) (HS t m) := by
  refine ev_go (pc' := 1) (ls' := [some (vR (some 3))]) (st' := [vR (some 3)]) (h1 := HS t m) 1 (by rfl) ?_
  refine ev_getI rfl rfl ?_
  exact ev_retE rfl rfl (by first | rfl | (simp [*]; done) | (split <;> first | rfl | (exfalso; omega))) (by first | rfl | (simp [*]; done) | (split <;> first | rfl | (exfalso; omega)))
set_option maxRecDepth 10000 in
theorem l_change {L : Nat} {xs : Nat → Int32} {t : Bool × Nat × Nat} {d a n : Nat} {y : Int} {l : List (Int × Nat)} (ha : TX a) (hs12 : 12 ≤ a) (hl : l.length = n) (hW : WT l) : ∀ (c i : Nat) (s : Nat → Nat → Int) (m : mMM), i + c = n → 0 < i → TXR m a l → SR m s → ∃ m', Ev (PP L xs) d 14 27 [some (vR (some 3)), some (vR (some a)), some (vI y), some (vI (i : Int))] [] (HS t m) (.inl none) (HS t m') ∧ SR m' (chF y l c i s) ∧ FRs m m' := by
  intro c
  induction c with
  | zero =>
    intro i s m hi hi0 ht hs
    refine ⟨m, ?_, hs, fun _ _ _ => rfl⟩
    refine ev_go (pc' := 29) (ls' := [some (vR (some 3)), some (vR (some a)), some (vI y), some (vI ((i : Nat) : Int))]) (st' := [vR (some a), vI ((i : Nat) : Int)]) (h1 := HS t m) 2 (by rfl) ?_
    refine ev_getIv (v := ((n : Nat) : Int)) rfl ha.1 ((by rw [ht.1, hl])) ?_
    refine ev_ic3 rfl (inI_of (by have := ht.2.1; omega) (by have := ht.2.1; omega)) (inI_of (by have := ht.2.1; omega) (by have := ht.2.1; omega)) (fun c32 => ?_) (fun c32 => absurd c32 (by omega))
    exact ev_retE rfl rfl (by first | rfl | (simp [*]; done) | (split <;> first | rfl | (exfalso; omega))) (by first | rfl | (simp [*]; done) | (split <;> first | rfl | (exfalso; omega)))
  | succ c IH =>
    intro i s m hi hi0 ht hs
    have hl6 := ht.2.1
    have hv := ht.2.2 i (by omega)
    have hu := ht.2.2 (i - 1) (by omega)
    have hg := (hW (gt l (i - 1)) (gt_mem (by omega))).2.2
    have hh := (hW (gt l i) (gt_mem (by omega))).2.2
    have hgi : m (a + 2) (i - 1) = ((gt l (i - 1)).2 : Int) := hu.2
    have hhi : m (a + 2) i = ((gt l i).2 : Int) := hv.2
    show ∃ m', _ ∧ SR m' (chF y l c (i + 1) (stI y s (gt l (i - 1)).2 (gt l i).2)) ∧ _
    generalize (gt l (i - 1)).2 = g at *
    generalize (gt l i).2 = h at *
    have hF : FRs m (up m (7 + g) h (m (7 + g) h + y)) := fun b k hb => by rw [up_ne1 _ _ (by omega)]
    have ht1 : TXR (up m (7 + g) h (m (7 + g) h + y)) a l := ⟨by rw [hF a 2 (by omega)]; exact ht.1, ht.2.1, fun k hk => ⟨by rw [hF (a + 1) k (by omega)]; exact (ht.2.2 k hk).1, by rw [hF (a + 2) k (by omega)]; exact (ht.2.2 k hk).2⟩⟩
    obtain ⟨m2, hE2, hS2, hF2⟩ := IH (i + 1) _ _ (by omega) (by omega) ht1 (SR_up hs hg hh y)
    refine ⟨m2, ?_, hS2, fun b k hb => (hF2 b k hb).trans (hF b k hb)⟩
    refine ev_go (pc' := 29) (ls' := [some (vR (some 3)), some (vR (some a)), some (vI y), some (vI ((i : Nat) : Int))]) (st' := [vR (some a), vI ((i : Nat) : Int)]) (h1 := HS t m) 2 (by rfl) ?_
    refine ev_getIv (v := ((n : Nat) : Int)) rfl ha.1 ((by rw [ht.1, hl])) ?_
    refine ev_ic3 rfl (inI_of (by have := ht.2.1; omega) (by have := ht.2.1; omega)) (inI_of (by have := ht.2.1; omega) (by have := ht.2.1; omega)) (fun c32 => absurd c32 (by omega)) (fun c32 => ?_)
    refine ev_go (pc' := 36) (ls' := [some (vR (some 3)), some (vR (some a)), some (vI y), some (vI ((i : Nat) : Int))]) (st' := [vR (some 3)]) (h1 := HS t m) 1 (by rfl) ?_
    refine ev_getR rfl rfl (rfl : rf 3 2 = some 6) ?_
    refine ev_go (pc' := 40) (ls' := [some (vR (some 3)), some (vR (some a)), some (vI y), some (vI ((i : Nat) : Int))]) (st' := [vR (some a), vR (some 6)]) (h1 := HS t m) 1 (by rfl) ?_
    refine ev_getR rfl ha.1 (ha.2.2.2.2 : rf a 1 = some (a + 2)) ?_
    refine ev_go (pc' := 46) (ls' := [some (vR (some 3)), some (vR (some a)), some (vI y), some (vI ((i : Nat) : Int))]) (st' := [vI (((i : Nat) : Int) - 1), vR (some (a + 2)), vR (some 6)]) (h1 := HS t m) 3 (by rfl) ?_
    refine ev_iald (k := (i - 1)) rfl ha.2.2.1 (by omega) (by omega) ?_
    refine ev_aald (k := g) rfl rfl hgi (by omega) ((rf_rows g hg).1 : rf 6 g = some (7 + g)) ?_
    refine ev_go (pc' := 49) (ls' := [some (vR (some 3)), some (vR (some a)), some (vI y), some (vI ((i : Nat) : Int))]) (st' := [vR (some a), vR (some (7 + g))]) (h1 := HS t m) 1 (by rfl) ?_
    refine ev_getR rfl ha.1 (ha.2.2.2.2 : rf a 1 = some (a + 2)) ?_
    refine ev_go (pc' := 53) (ls' := [some (vR (some 3)), some (vR (some a)), some (vI y), some (vI ((i : Nat) : Int))]) (st' := [vI ((i : Nat) : Int), vR (some (a + 2)), vR (some (7 + g))]) (h1 := HS t m) 1 (by rfl) ?_
    refine ev_iald (k := i) rfl ha.2.2.1 rfl (by omega) ?_
    refine ev_go (pc' := 55) (ls' := [some (vR (some 3)), some (vR (some a)), some (vI y), some (vI ((i : Nat) : Int))]) (st' := [vI (m (a + 2) i), vR (some (7 + g)), vI (m (a + 2) i), vR (some (7 + g))]) (h1 := HS t m) 1 (by rfl) ?_
    refine ev_iald (k := h) rfl (kd_rows g hg).1 hhi (by omega) ?_
    refine ev_go (pc' := 58) (ls' := [some (vR (some 3)), some (vR (some a)), some (vI y), some (vI ((i : Nat) : Int))]) (st' := [vI ((m (7 + g) h) + y), vI (m (a + 2) i), vR (some (7 + g))]) (h1 := HS t m) 2 (by rfl) ?_
    refine ev_iast (k := h) rfl (kd_rows g hg).1 hhi (by omega) ?_
    refine ev_go (pc' := 27) (ls' := [some (vR (some 3)), some (vR (some a)), some (vI y), some (vI ((i + 1 : Nat) : Int))]) (st' := []) (h1 := HS t (up m (7 + g) h ((m (7 + g) h) + y))) 2 (by rfl) ?_
    exact hE2
set_option maxRecDepth 10000 in
theorem c_change {L : Nat} {xs : Nat → Int32} {t : Bool × Nat × Nat} {d a : Nat} {y : Int} {m : mMM} {l : List (Int × Nat)} {s : Nat → Nat → Int} (ha : TX a) (hs12 : 12 ≤ a) (hl0 : 0 < l.length) (hW : WT l) (ht : TXR m a l) (hs : SR m s) : ∃ m', Ev (PP L xs) d 14 0 (entL 4 [vR (some 3), vR (some a), vI y]) [] (HS t m) (.inl none) (HS t m') ∧ SR m' (chF y l (l.length - 1) 1 s) ∧ FRs (up (up m 3 4 (m 3 4 + y)) 5 (gt l 0).2 (m 5 (gt l 0).2 + y)) m' := by
  have hl6 := ht.2.1
  have hg5 := (hW (gt l 0) (gt_mem hl0)).2.2
  have hg0 : m (a + 2) 0 = ((gt l 0).2 : Int) := (ht.2.2 0 hl0).2
  generalize (gt l 0).2 = g0 at *
  have hF : ∀ b k, b ≠ 3 → b ≠ 5 → (up (up m 3 4 (m 3 4 + y)) 5 g0 (m 5 g0 + y)) b k = m b k := fun b k h3 h5 => by rw [up_ne1 _ _ h5, up_ne1 _ _ h3]
  have ht1 : TXR (up (up m 3 4 (m 3 4 + y)) 5 g0 (m 5 g0 + y)) a l := ⟨by rw [hF a 2 (by omega) (by omega)]; exact ht.1, ht.2.1, fun k hk => ⟨by rw [hF (a + 1) k (by omega) (by omega)]; exact (ht.2.2 k hk).1, by rw [hF (a + 2) k (by omega) (by omega)]; exact (ht.2.2 k hk).2⟩⟩
  obtain ⟨m1, hE, hS, hF1⟩ := l_change (L := L) (xs := xs) (t := t) (d := d) (y := y) ha hs12 rfl hW (l.length - 1) 1 s (up (up m 3 4 (m 3 4 + y)) 5 g0 (m 5 g0 + y)) (by omega) (by omega) ht1 (fun g hg h hh => by rw [hF (7 + g) h (by omega) (by omega)]; exact hs g hg h hh)
  refine ⟨m1, ?_, hS, fun b k hb => hF1 b k hb⟩
  refine ev_go (pc' := 2) (ls' := [some (vR (some 3)), some (vR (some a)), some (vI y), none]) (st' := [vR (some 3), vR (some 3)]) (h1 := HS t m) 2 (by rfl) ?_
  refine ev_getI rfl rfl ?_
  refine ev_go (pc' := 7) (ls' := [some (vR (some 3)), some (vR (some a)), some (vI y), none]) (st' := [vI ((m 3 4) + y), vR (some 3)]) (h1 := HS t m) 2 (by rfl) ?_
  refine ev_putI rfl rfl ?_
  refine ev_go (pc' := 11) (ls' := [some (vR (some 3)), some (vR (some a)), some (vI y), none]) (st' := [vR (some 3)]) (h1 := HS t (up m 3 4 ((m 3 4) + y))) 1 (by rfl) ?_
  refine ev_getR rfl rfl (rfl : rf 3 1 = some 5) ?_
  refine ev_go (pc' := 15) (ls' := [some (vR (some 3)), some (vR (some a)), some (vI y), none]) (st' := [vR (some a), vR (some 5)]) (h1 := HS t (up m 3 4 ((m 3 4) + y))) 1 (by rfl) ?_
  refine ev_getR rfl ha.1 (ha.2.2.2.2 : rf a 1 = some (a + 2)) ?_
  refine ev_go (pc' := 19) (ls' := [some (vR (some 3)), some (vR (some a)), some (vI y), none]) (st' := [vI 0, vR (some (a + 2)), vR (some 5)]) (h1 := HS t (up m 3 4 ((m 3 4) + y))) 1 (by rfl) ?_
  refine ev_ialdv (k := 0) (v := (m (a + 2) 0)) rfl ha.2.2.1 rfl (by omega) (up_ne1 _ _ (by omega)) ?_
  refine ev_go (pc' := 21) (ls' := [some (vR (some 3)), some (vR (some a)), some (vI y), none]) (st' := [vI (m (a + 2) 0), vR (some 5), vI (m (a + 2) 0), vR (some 5)]) (h1 := HS t (up m 3 4 ((m 3 4) + y))) 1 (by rfl) ?_
  refine ev_ialdv (k := g0) (v := (m 5 g0)) rfl rfl hg0 (by omega) (up_ne1 _ _ (by decide)) ?_
  refine ev_go (pc' := 24) (ls' := [some (vR (some 3)), some (vR (some a)), some (vI y), none]) (st' := [vI ((m 5 g0) + y), vI (m (a + 2) 0), vR (some 5)]) (h1 := HS t (up m 3 4 ((m 3 4) + y))) 2 (by rfl) ?_
  refine ev_iast (k := g0) rfl rfl hg0 (by omega) ?_
  refine ev_go (pc' := 27) (ls' := [some (vR (some 3)), some (vR (some a)), some (vI y), some (vI 1)]) (st' := []) (h1 := HS t (up (up m 3 4 ((m 3 4) + y)) 5 g0 ((m 5 g0) + y))) 2 (by rfl) ?_
  exact hE
