/-! ===== letting a text count, keeping the draft ===== -/
theorem TXR_up3 {m : mMM} {a : Nat} {l : List (Int × Nat)} (v : Int) (h : TXR m a l) : TXR (up m a 3 v) a l :=
  ⟨by rw [up_ne2 _ _ (by decide)]; exact h.1, h.2.1, fun k hk => ⟨by rw [up_ne1 _ _ (by omega)]; exact (h.2.2 k hk).1, by rw [up_ne1 _ _ (by omega)]; exact (h.2.2 k hk).2⟩⟩
theorem SR_up3 {m : mMM} {s : Nat → Nat → Int} {a k : Nat} (v : Int) (h : SR m s) (ha : a < 7 ∨ 11 < a) : SR (up m a k v) s := fun g hg h' hh => by
  rw [up_ne1 _ _ (by omega)]; exact h g hg h' hh
set_option maxRecDepth 10000 in
theorem c_let1 {L : Nat} {xs : Nat → Int32} {t : Bool × Nat × Nat} {d i : Nat} {m : mMM} {l : List (Int × Nat)} {s : Nat → Nat → Int} (hi : i < 21) (hl0 : 0 < l.length) (hW : WT l) (ht : TXR m (tx i) l) (hs : SR m s) (hc : m (tx i) 3 = 0) : ∃ m', Ev (PP L xs) (d + 1) 13 0 (entL 5 [vR (some 3), vI (i : Int), vI 1]) [] (HS t m) (.inl (some (vI 0))) (HS t m') ∧ SR m' (chF 1 l (l.length - 1) 1 s) ∧ FRs (up (up (up m (tx i) 3 1) 3 4 (m 3 4 + 1)) 5 (gt l 0).2 (m 5 (gt l 0).2 + 1)) m' := by
  have e12 : tx i = 12 + 3 * i := rfl
  have ha := TX_tx hi
  obtain ⟨m1, hE, hS, hF⟩ := c_change (L := L) (xs := xs) (t := t) (d := d) (y := 1) ha (by omega) hl0 hW (TXR_up3 1 ht) (SR_up3 1 hs (by omega))
  rw [up_ne1 _ _ (show 3 ≠ tx i by omega), up_ne1 _ _ (show 5 ≠ tx i by omega)] at hF
  refine ⟨m1, ?_, hS, hF⟩
  refine ev_go (pc' := 1) (ls' := [some (vR (some 3)), some (vI ((i : Nat) : Int)), some (vI 1), none, none]) (st' := [vR (some 3)]) (h1 := HS t m) 1 (by rfl) ?_
  refine ev_getR rfl rfl (rfl : rf 3 0 = some 4) ?_
  refine ev_go (pc' := 5) (ls' := [some (vR (some 3)), some (vI ((i : Nat) : Int)), some (vI 1), none, none]) (st' := [vI ((i : Nat) : Int), vR (some 4)]) (h1 := HS t m) 1 (by rfl) ?_
  refine ev_aald (k := i) rfl rfl rfl (by omega) ((rf_tx i hi).1 : rf 4 i = some (tx i)) ?_
  refine ev_go (pc' := 8) (ls' := [some (vR (some 3)), some (vI ((i : Nat) : Int)), some (vI 1), some (vR (some (tx i))), none]) (st' := [vR (some (tx i))]) (h1 := HS t m) 2 (by rfl) ?_
  refine ev_getIv (v := 0) rfl ha.1 (hc) ?_
  refine ev_go (pc' := 16) (ls' := [some (vR (some 3)), some (vI ((i : Nat) : Int)), some (vI 1), some (vR (some (tx i))), some (vI 0)]) (st' := [vI 0, vI 1]) (h1 := HS t m) 3 (by rfl) ?_
  refine ev_ic0 rfl rfl rfl (fun c16 => absurd c16 (by decide)) (fun c16 => ?_)
  refine ev_go (pc' := 21) (ls' := [some (vR (some 3)), some (vI ((i : Nat) : Int)), some (vI 1), some (vR (some (tx i))), some (vI 0)]) (st' := [vI 1, vR (some (tx i))]) (h1 := HS t m) 2 (by rfl) ?_
  refine ev_putZ rfl ha.1 (by first | exact Or.inl rfl | exact Or.inr rfl | omega) ?_
  refine ev_go (pc' := 27) (ls' := [some (vR (some 3)), some (vI ((i : Nat) : Int)), some (vI 1), some (vR (some (tx i))), some (vI 0)]) (st' := [vI 1, vR (some (tx i)), vR (some 3)]) (h1 := HS t (up m (tx i) 3 1)) 3 (by rfl) ?_
  refine ev_if0 rfl rfl (fun c27 => absurd c27 (by decide)) (fun c27 => ?_)
  refine ev_go (pc' := 35) (ls' := [some (vR (some 3)), some (vI ((i : Nat) : Int)), some (vI 1), some (vR (some (tx i))), some (vI 0)]) (st' := [vI 1, vR (some (tx i)), vR (some 3)]) (h1 := HS t (up m (tx i) 3 1)) 2 (by rfl) ?_
  refine ev_call rfl rfl (Nat.le_of_ble_eq_true rfl) hE ⟨Nat.le_refl _, Nat.le_refl _⟩ ?_
  show Ev (PP L xs) _ 13 38 [some (vR (some 3)), some (vI ((i : Nat) : Int)), some (vI 1), some (vR (some (tx i))), some (vI 0)] [] (HS t m1) _ _
  refine ev_go (pc' := 40) (ls' := [some (vR (some 3)), some (vI ((i : Nat) : Int)), some (vI 1), some (vR (some (tx i))), some (vI 0)]) (st' := [vI 0]) (h1 := HS t m1) 1 (by rfl) ?_
  exact ev_retE rfl rfl (by first | rfl | (simp [*]; done) | (split <;> first | rfl | (exfalso; omega))) (by first | rfl | (simp [*]; done) | (split <;> first | rfl | (exfalso; omega)))
set_option maxRecDepth 10000 in
theorem c_letS1 {L : Nat} {xs : Nat → Int32} {d : Nat} {t : Bool × Nat × Nat} {m : mMM} {i : Nat} (hi : i < 21) (hc : m (tx i) 3 = 1) : Ev (PP L xs) d 13 0 (entL 5 [vR (some 3), vI ((i : Nat) : Int), vI 1]) [] (HS t m) (.inl (some (vI 1))) (HS t m) := by
  refine ev_go (pc' := 1) (ls' := [some (vR (some 3)), some (vI ((i : Nat) : Int)), some (vI 1), none, none]) (st' := [vR (some 3)]) (h1 := HS t m) 1 (by rfl) ?_
  refine ev_getR rfl rfl (rfl : rf 3 0 = some 4) ?_
  refine ev_go (pc' := 5) (ls' := [some (vR (some 3)), some (vI ((i : Nat) : Int)), some (vI 1), none, none]) (st' := [vI ((i : Nat) : Int), vR (some 4)]) (h1 := HS t m) 1 (by rfl) ?_
  refine ev_aald (k := i) rfl rfl rfl (by omega) ((rf_tx i hi).1 : rf 4 i = some (tx i)) ?_
  refine ev_go (pc' := 8) (ls' := [some (vR (some 3)), some (vI ((i : Nat) : Int)), some (vI 1), some (vR (some (tx i))), none]) (st' := [vR (some (tx i))]) (h1 := HS t m) 2 (by rfl) ?_
  refine ev_getIv (v := 1) rfl (TX_tx hi).1 (hc) ?_
  refine ev_go (pc' := 16) (ls' := [some (vR (some 3)), some (vI ((i : Nat) : Int)), some (vI 1), some (vR (some (tx i))), some (vI 1)]) (st' := [vI 1, vI 1]) (h1 := HS t m) 3 (by rfl) ?_
  refine ev_ic0 rfl rfl rfl (fun c16 => ?_) (fun c16 => absurd c16 (by decide))
  refine ev_go (pc' := 40) (ls' := [some (vR (some 3)), some (vI ((i : Nat) : Int)), some (vI 1), some (vR (some (tx i))), some (vI 1)]) (st' := [vI 1]) (h1 := HS t m) 1 (by rfl) ?_
  exact ev_retE rfl rfl (by first | rfl | (simp [*]; done) | (split <;> first | rfl | (exfalso; omega))) (by first | rfl | (simp [*]; done) | (split <;> first | rfl | (exfalso; omega)))
set_option maxRecDepth 10000 in
theorem c_let0 {L : Nat} {xs : Nat → Int32} {t : Bool × Nat × Nat} {d i : Nat} {m : mMM} {l : List (Int × Nat)} {s : Nat → Nat → Int} (hi : i < 21) (hl0 : 0 < l.length) (hW : WT l) (ht : TXR m (tx i) l) (hs : SR m s) (hc : m (tx i) 3 = 1) : ∃ m', Ev (PP L xs) (d + 1) 13 0 (entL 5 [vR (some 3), vI (i : Int), vI 0]) [] (HS t m) (.inl (some (vI 1))) (HS t m') ∧ SR m' (chF (-1) l (l.length - 1) 1 s) ∧ FRs (up (up (up m (tx i) 3 0) 3 4 (m 3 4 + (-1))) 5 (gt l 0).2 (m 5 (gt l 0).2 + (-1))) m' := by
  have e12 : tx i = 12 + 3 * i := rfl
  have ha := TX_tx hi
  obtain ⟨m1, hE, hS, hF⟩ := c_change (L := L) (xs := xs) (t := t) (d := d) (y := (-1)) ha (by omega) hl0 hW (TXR_up3 0 ht) (SR_up3 0 hs (by omega))
  rw [up_ne1 _ _ (show 3 ≠ tx i by omega), up_ne1 _ _ (show 5 ≠ tx i by omega)] at hF
  refine ⟨m1, ?_, hS, hF⟩
  refine ev_go (pc' := 1) (ls' := [some (vR (some 3)), some (vI ((i : Nat) : Int)), some (vI 0), none, none]) (st' := [vR (some 3)]) (h1 := HS t m) 1 (by rfl) ?_
  refine ev_getR rfl rfl (rfl : rf 3 0 = some 4) ?_
  refine ev_go (pc' := 5) (ls' := [some (vR (some 3)), some (vI ((i : Nat) : Int)), some (vI 0), none, none]) (st' := [vI ((i : Nat) : Int), vR (some 4)]) (h1 := HS t m) 1 (by rfl) ?_
  refine ev_aald (k := i) rfl rfl rfl (by omega) ((rf_tx i hi).1 : rf 4 i = some (tx i)) ?_
  refine ev_go (pc' := 8) (ls' := [some (vR (some 3)), some (vI ((i : Nat) : Int)), some (vI 0), some (vR (some (tx i))), none]) (st' := [vR (some (tx i))]) (h1 := HS t m) 2 (by rfl) ?_
  refine ev_getIv (v := 1) rfl ha.1 (hc) ?_
  refine ev_go (pc' := 16) (ls' := [some (vR (some 3)), some (vI ((i : Nat) : Int)), some (vI 0), some (vR (some (tx i))), some (vI 1)]) (st' := [vI 1, vI 0]) (h1 := HS t m) 3 (by rfl) ?_
  refine ev_ic0 rfl rfl rfl (fun c16 => absurd c16 (by decide)) (fun c16 => ?_)
  refine ev_go (pc' := 21) (ls' := [some (vR (some 3)), some (vI ((i : Nat) : Int)), some (vI 0), some (vR (some (tx i))), some (vI 1)]) (st' := [vI 0, vR (some (tx i))]) (h1 := HS t m) 2 (by rfl) ?_
  refine ev_putZ rfl ha.1 (by first | exact Or.inl rfl | exact Or.inr rfl | omega) ?_
  refine ev_go (pc' := 27) (ls' := [some (vR (some 3)), some (vI ((i : Nat) : Int)), some (vI 0), some (vR (some (tx i))), some (vI 1)]) (st' := [vI 0, vR (some (tx i)), vR (some 3)]) (h1 := HS t (up m (tx i) 3 0)) 3 (by rfl) ?_
  refine ev_if0 rfl rfl (fun c27 => ?_) (fun c27 => absurd c27 (by decide))
  refine ev_go (pc' := 35) (ls' := [some (vR (some 3)), some (vI ((i : Nat) : Int)), some (vI 0), some (vR (some (tx i))), some (vI 1)]) (st' := [vI (-1), vR (some (tx i)), vR (some 3)]) (h1 := HS t (up m (tx i) 3 0)) 1 (by rfl) ?_
  refine ev_call rfl rfl (Nat.le_of_ble_eq_true rfl) hE ⟨Nat.le_refl _, Nat.le_refl _⟩ ?_
  show Ev (PP L xs) _ 13 38 [some (vR (some 3)), some (vI ((i : Nat) : Int)), some (vI 0), some (vR (some (tx i))), some (vI 1)] [] (HS t m1) _ _
  refine ev_go (pc' := 40) (ls' := [some (vR (some 3)), some (vI ((i : Nat) : Int)), some (vI 0), some (vR (some (tx i))), some (vI 1)]) (st' := [vI 1]) (h1 := HS t m1) 1 (by rfl) ?_
  exact ev_retE rfl rfl (by first | rfl | (simp [*]; done) | (split <;> first | rfl | (exfalso; omega))) (by first | rfl | (simp [*]; done) | (split <;> first | rfl | (exfalso; omega)))
set_option maxRecDepth 10000 in
theorem c_letS0 {L : Nat} {xs : Nat → Int32} {d : Nat} {t : Bool × Nat × Nat} {m : mMM} {i : Nat} (hi : i < 21) (hc : m (tx i) 3 = 0) : Ev (PP L xs) d 13 0 (entL 5 [vR (some 3), vI ((i : Nat) : Int), vI 0]) [] (HS t m) (.inl (some (vI 0))) (HS t m) := by
  refine ev_go (pc' := 1) (ls' := [some (vR (some 3)), some (vI ((i : Nat) : Int)), some (vI 0), none, none]) (st' := [vR (some 3)]) (h1 := HS t m) 1 (by rfl) ?_
  refine ev_getR rfl rfl (rfl : rf 3 0 = some 4) ?_
  refine ev_go (pc' := 5) (ls' := [some (vR (some 3)), some (vI ((i : Nat) : Int)), some (vI 0), none, none]) (st' := [vI ((i : Nat) : Int), vR (some 4)]) (h1 := HS t m) 1 (by rfl) ?_
  refine ev_aald (k := i) rfl rfl rfl (by omega) ((rf_tx i hi).1 : rf 4 i = some (tx i)) ?_
  refine ev_go (pc' := 8) (ls' := [some (vR (some 3)), some (vI ((i : Nat) : Int)), some (vI 0), some (vR (some (tx i))), none]) (st' := [vR (some (tx i))]) (h1 := HS t m) 2 (by rfl) ?_
  refine ev_getIv (v := 0) rfl (TX_tx hi).1 (hc) ?_
  refine ev_go (pc' := 16) (ls' := [some (vR (some 3)), some (vI ((i : Nat) : Int)), some (vI 0), some (vR (some (tx i))), some (vI 0)]) (st' := [vI 0, vI 0]) (h1 := HS t m) 3 (by rfl) ?_
  refine ev_ic0 rfl rfl rfl (fun c16 => ?_) (fun c16 => absurd c16 (by decide))
  refine ev_go (pc' := 40) (ls' := [some (vR (some 3)), some (vI ((i : Nat) : Int)), some (vI 0), some (vR (some (tx i))), some (vI 0)]) (st' := [vI 0]) (h1 := HS t m) 1 (by rfl) ?_
  exact ev_retE rfl rfl (by first | rfl | (simp [*]; done) | (split <;> first | rfl | (exfalso; omega))) (by first | rfl | (simp [*]; done) | (split <;> first | rfl | (exfalso; omega)))
set_option maxRecDepth 10000 in
theorem c_keep {L : Nat} {xs : Nat → Int32} {t : Bool × Nat × Nat} {d n : Nat} {m : mMM} {l : List (Int × Nat)} {s : Nat → Nat → Int} (hn : m 3 3 = (n : Int)) (hn21 : n < 21) (hl0 : 0 < l.length) (hW : WT l) (ht : TXR m (tx n) l) (hs : SR m s) (hc : m (tx n) 3 = 0) : ∃ m', Ev (PP L xs) (d + 2) 12 0 (entL 2 [vR (some 3)]) [] (HS t m) (.inl (some (vI (n : Int)))) (HS t m') ∧ SR m' (chF 1 l (l.length - 1) 1 s) ∧ FRs (up (up (up (up m 3 3 ((n + 1 : Nat) : Int)) (tx n) 3 1) 3 4 (m 3 4 + 1)) 5 (gt l 0).2 (m 5 (gt l 0).2 + 1)) m' := by
  have e12 : tx n = 12 + 3 * n := rfl
  have ht1 : TXR (up m 3 3 ((n + 1 : Nat) : Int)) (tx n) l := TXR_fr (b := 3) (fun c k hc => by rw [up_ne1 _ _ hc]) (by omega) (by omega) (by omega) ht
  obtain ⟨m1, hE, hS, hF⟩ := c_let1 (L := L) (xs := xs) (t := t) (d := d) (m := up m 3 3 ((n + 1 : Nat) : Int)) hn21 hl0 hW ht1 (SR_up3 _ hs (by omega)) (by rw [up_ne1 _ _ (by omega)]; exact hc)
  rw [up_ne2 _ _ (show 4 ≠ 3 by decide), up_ne1 _ _ (show 5 ≠ 3 by decide)] at hF
  refine ⟨m1, ?_, hS, hF⟩
  refine ev_go (pc' := 1) (ls' := [some (vR (some 3)), none]) (st' := [vR (some 3)]) (h1 := HS t m) 1 (by rfl) ?_
  refine ev_getIv (v := ((n : Nat) : Int)) rfl rfl (hn) ?_
  refine ev_go (pc' := 7) (ls' := [some (vR (some 3)), some (vI ((n : Nat) : Int))]) (st' := [vR (some 3), vR (some 3)]) (h1 := HS t m) 3 (by rfl) ?_
  refine ev_getIv (v := ((n : Nat) : Int)) rfl rfl (hn) ?_
  refine ev_go (pc' := 12) (ls' := [some (vR (some 3)), some (vI ((n : Nat) : Int))]) (st' := [vI ((n + 1 : Nat) : Int), vR (some 3)]) (h1 := HS t m) 2 (by rfl) ?_
  refine ev_putI rfl rfl ?_
  refine ev_go (pc' := 18) (ls' := [some (vR (some 3)), some (vI ((n : Nat) : Int))]) (st' := [vI 1, vI ((n : Nat) : Int), vR (some 3)]) (h1 := HS t (up m 3 3 ((n + 1 : Nat) : Int))) 3 (by rfl) ?_
  refine ev_call rfl rfl (Nat.le_of_ble_eq_true rfl) hE ⟨Nat.le_refl _, Nat.le_refl _⟩ ?_
  show Ev (PP L xs) _ 12 21 [some (vR (some 3)), some (vI ((n : Nat) : Int))] [vI 0] (HS t m1) _ _
  refine ev_go (pc' := 23) (ls' := [some (vR (some 3)), some (vI ((n : Nat) : Int))]) (st' := [vI ((n : Nat) : Int)]) (h1 := HS t m1) 2 (by rfl) ?_
  exact ev_retE rfl rfl (by first | rfl | (simp [*]; done) | (split <;> first | rfl | (exfalso; omega))) (by first | rfl | (simp [*]; done) | (split <;> first | rfl | (exfalso; omega)))
