/-! ===== the law's own small methods ===== -/
section EVL
variable {L : Nat} {xs : Nat → Int32} {d j pc nx : Nat} {ls : mLS} {st : mST} {t : Bool × Nat × Nat} {m : mMM} {o : Option mMV ⊕ Nat} {h' : mMH}
theorem ev_sld {i : Int} {k : Nat} (hf : lk (dC (PP L xs j)) pc = some (mo_sld L xs nx)) (hi : i = (k : Int)) (hlt : k < L) (kk : Ev (PP L xs) d j nx ls (vI (xs k).toInt :: st) (HS t m) o h') : Ev (PP L xs) d j pc ls (vI i :: vR (some 0) :: st) (HS t m) o h' := by
  subst hi
  refine ev_step (pc' := nx) (ls' := ls) (st' := vI (xs k).toInt :: st) (h1 := HS t m) hf ?_ kk
  show (bif decide (0 ≤ (k : Int)) && decide ((k : Int) < (L : Int)) then _ else none) = _
  rw [decide_eq_true (show 0 ≤ (k : Int) by omega), decide_eq_true (show (k : Int) < (L : Int) by omega)]; rfl
theorem and15 (x : Nat) : x &&& 15 = x % 16 := Nat.and_two_pow_sub_one_eq_mod x 4
theorem ev_iand15 {x : Int} (hf : lk (dC (PP L xs j)) pc = some (mo_iand nx)) (hx : inI x = true) (kk : Ev (PP L xs) d j nx ls (vI (x % 16) :: st) (HS t m) o h') : Ev (PP L xs) d j pc ls (vI 15 :: vI x :: st) (HS t m) o h' := by
  refine ev_step (pc' := nx) (ls' := ls) (st' := vI (x % 16) :: st) (h1 := HS t m) hf ?_ kk
  show (bif inI 15 && (inI x && decide ((0 : Int) ≤ 15)) then (bif decide (0 ≤ x) then nxt nx ls (vI ((x.toNat &&& (15 : Int).toNat : Nat) : Int) :: st) (HS t m) else bif decide ((15 : Int) = 15) then nxt nx ls (vI (x % 16) :: st) (HS t m) else none) else none) = _
  rw [hx, show inI 15 = true from rfl]
  by_cases h : 0 ≤ x
  · rw [decide_eq_true h]
    show nxt nx ls (vI ((x.toNat &&& 15 : Nat) : Int) :: st) (HS t m) = _
    rw [and15, show ((x.toNat % 16 : Nat) : Int) = x % 16 by omega]; rfl
  · rw [decide_eq_false h]; rfl
theorem ev_tsw {tg : List Nat} {k p : Nat} {x : Int} (hf : lk (dC (PP L xs j)) pc = some (mo_tsw tg)) (hx : x = (k : Int)) (hk : k < 16) (ht : tg[k]? = some p) (kk : Ev (PP L xs) d j p ls st (HS t m) o h') : Ev (PP L xs) d j pc ls (vI x :: st) (HS t m) o h' := by
  subst hx
  refine ev_step (pc' := p) (ls' := ls) (st' := st) (h1 := HS t m) hf ?_ kk
  show (bif inI (k : Int) && decide (0 ≤ (k : Int)) then (match tg[(k : Int).toNat]? with
    | some t0 => nxt t0 ls st (HS t m)
    | none => none) else none) = _
  rw [inI_of (x := (k : Int)) (by omega) (by omega), decide_eq_true (show 0 ≤ (k : Int) by omega), Int.toNat_natCast, ht]; rfl
end EVL
set_option maxRecDepth 10000 in
theorem lx_letter {L : Nat} {xs : Nat → Int32} {t : Bool × Nat × Nat} {m : mMM} {c kk : Int} {E : Nat} (hE : Ev (PP L xs) 9 62 0 (entL 2 [vR (some 1), vI c]) [] (HS t m) (.inr E) (HS (tt t) m)) (hk : lx (dX (PP L xs 127)) E = some kk) : Ev (PP L xs) 10 127 0 (entL 4 [vR (some 1), vI c, vR (some 204)]) [] (HS t m) (.inl (some (vI kk))) (HS (tt t) m) := by
  refine ev_go (pc' := 4) (ls' := [some (vR (some 1)), some (vI c), some (vR (some 204)), none]) (st' := [vI c, vR (some 1), vI 0, vR (some 204)]) (h1 := HS t m) 4 (by rfl) ?_
  exact ev_catch rfl rfl (Nat.le_of_ble_eq_true rfl) hE ⟨Nat.le_succ _, Nat.le_add_right _ _⟩ rfl hk rfl
set_option maxRecDepth 10000 in
theorem lo_letter {L : Nat} {xs : Nat → Int32} {t : Bool × Nat × Nat} {m : mMM} {c v : Int} {m1 : mMM} (hE : Ev (PP L xs) 9 62 0 (entL 2 [vR (some 1), vI c]) [] (HS t m) (.inl (some (vI v))) (HS t m1)) (hv : inI v = true) : Ev (PP L xs) 10 127 0 (entL 4 [vR (some 1), vI c, vR (some 204)]) [] (HS t m) (.inl (some (vI 0))) (HS t (up m1 204 0 v)) := by
  refine ev_go (pc' := 4) (ls' := [some (vR (some 1)), some (vI c), some (vR (some 204)), none]) (st' := [vI c, vR (some 1), vI 0, vR (some 204)]) (h1 := HS t m) 4 (by rfl) ?_
  refine ev_call rfl rfl (Nat.le_of_ble_eq_true rfl) hE ⟨Nat.le_refl _, Nat.le_refl _⟩ ?_
  show Ev (PP L xs) _ 127 7 [some (vR (some 1)), some (vI c), some (vR (some 204)), none] [vI v, vI 0, vR (some 204)] (HS t m1) _ _
  refine ev_i2l rfl hv ?_
  refine ev_last (k := 0) rfl rfl rfl (by omega) ?_
  refine ev_go (pc' := 19) (ls' := [some (vR (some 1)), some (vI c), some (vR (some 204)), none]) (st' := [vI 0]) (h1 := HS t (up m1 204 0 v)) 2 (by rfl) ?_
  exact ev_retE rfl rfl (by first | rfl | (simp [*]; done) | (split <;> first | rfl | (exfalso; omega))) (by first | rfl | (simp [*]; done) | (split <;> first | rfl | (exfalso; omega)))
set_option maxRecDepth 10000 in
theorem lx_tag {L : Nat} {xs : Nat → Int32} {t : Bool × Nat × Nat} {m : mMM} {c kk : Int} {E : Nat} (hE : Ev (PP L xs) 9 63 0 (entL 3 [vR (some 1), vI c]) [] (HS t m) (.inr E) (HS (tt t) m)) (hk : lx (dX (PP L xs 128)) E = some kk) : Ev (PP L xs) 10 128 0 (entL 4 [vR (some 1), vI c, vR (some 204)]) [] (HS t m) (.inl (some (vI kk))) (HS (tt t) m) := by
  refine ev_go (pc' := 4) (ls' := [some (vR (some 1)), some (vI c), some (vR (some 204)), none]) (st' := [vI c, vR (some 1), vI 0, vR (some 204)]) (h1 := HS t m) 4 (by rfl) ?_
  exact ev_catch rfl rfl (Nat.le_of_ble_eq_true rfl) hE ⟨Nat.le_succ _, Nat.le_add_right _ _⟩ rfl hk rfl
set_option maxRecDepth 10000 in
theorem lo_tag {L : Nat} {xs : Nat → Int32} {t : Bool × Nat × Nat} {m : mMM} {c v : Int} {m1 : mMM} (hE : Ev (PP L xs) 9 63 0 (entL 3 [vR (some 1), vI c]) [] (HS t m) (.inl (some (vI v))) (HS t m1)) (hv : inI v = true) : Ev (PP L xs) 10 128 0 (entL 4 [vR (some 1), vI c, vR (some 204)]) [] (HS t m) (.inl (some (vI 0))) (HS t (up m1 204 0 v)) := by
  refine ev_go (pc' := 4) (ls' := [some (vR (some 1)), some (vI c), some (vR (some 204)), none]) (st' := [vI c, vR (some 1), vI 0, vR (some 204)]) (h1 := HS t m) 4 (by rfl) ?_
  refine ev_call rfl rfl (Nat.le_of_ble_eq_true rfl) hE ⟨Nat.le_refl _, Nat.le_refl _⟩ ?_
  show Ev (PP L xs) _ 128 7 [some (vR (some 1)), some (vI c), some (vR (some 204)), none] [vI v, vI 0, vR (some 204)] (HS t m1) _ _
  refine ev_i2l rfl hv ?_
  refine ev_last (k := 0) rfl rfl rfl (by omega) ?_
  refine ev_go (pc' := 19) (ls' := [some (vR (some 1)), some (vI c), some (vR (some 204)), none]) (st' := [vI 0]) (h1 := HS t (up m1 204 0 v)) 2 (by rfl) ?_
  exact ev_retE rfl rfl (by first | rfl | (simp [*]; done) | (split <;> first | rfl | (exfalso; omega))) (by first | rfl | (simp [*]; done) | (split <;> first | rfl | (exfalso; omega)))
set_option maxRecDepth 10000 in
theorem lx_add {L : Nat} {xs : Nat → Int32} {t : Bool × Nat × Nat} {m : mMM} { kk : Int} {E : Nat} (hE : Ev (PP L xs) 9 64 0 (entL 1 [vR (some 1)]) [] (HS t m) (.inr E) (HS (tt t) m)) (hk : lx (dX (PP L xs 129)) E = some kk) : Ev (PP L xs) 10 129 0 (entL 3 [vR (some 1), vR (some 204)]) [] (HS t m) (.inl (some (vI kk))) (HS (tt t) m) := by
  refine ev_go (pc' := 3) (ls' := [some (vR (some 1)), some (vR (some 204)), none]) (st' := [vR (some 1), vI 0, vR (some 204)]) (h1 := HS t m) 3 (by rfl) ?_
  exact ev_catch rfl rfl (Nat.le_of_ble_eq_true rfl) hE ⟨Nat.le_succ _, Nat.le_add_right _ _⟩ rfl hk rfl
set_option maxRecDepth 10000 in
theorem lo_add {L : Nat} {xs : Nat → Int32} {t : Bool × Nat × Nat} {m : mMM} {v : Int} {m1 : mMM} (hE : Ev (PP L xs) 9 64 0 (entL 1 [vR (some 1)]) [] (HS t m) (.inl (some (vI v))) (HS t m1)) (hv : inI v = true) : Ev (PP L xs) 10 129 0 (entL 3 [vR (some 1), vR (some 204)]) [] (HS t m) (.inl (some (vI 0))) (HS t (up m1 204 0 v)) := by
  refine ev_go (pc' := 3) (ls' := [some (vR (some 1)), some (vR (some 204)), none]) (st' := [vR (some 1), vI 0, vR (some 204)]) (h1 := HS t m) 3 (by rfl) ?_
  refine ev_call rfl rfl (Nat.le_of_ble_eq_true rfl) hE ⟨Nat.le_refl _, Nat.le_refl _⟩ ?_
  show Ev (PP L xs) _ 129 6 [some (vR (some 1)), some (vR (some 204)), none] [vI v, vI 0, vR (some 204)] (HS t m1) _ _
  refine ev_i2l rfl hv ?_
  refine ev_last (k := 0) rfl rfl rfl (by omega) ?_
  refine ev_go (pc' := 15) (ls' := [some (vR (some 1)), some (vR (some 204)), none]) (st' := [vI 0]) (h1 := HS t (up m1 204 0 v)) 2 (by rfl) ?_
  exact ev_retE rfl rfl (by first | rfl | (simp [*]; done) | (split <;> first | rfl | (exfalso; omega))) (by first | rfl | (simp [*]; done) | (split <;> first | rfl | (exfalso; omega)))
set_option maxRecDepth 10000 in
theorem lx_text {L : Nat} {xs : Nat → Int32} {t : Bool × Nat × Nat} {m : mMM} {c e kk : Int} {E : Nat} (hE : Ev (PP L xs) 9 65 0 (entL 3 [vR (some 1), vI c, vI e]) [] (HS t m) (.inr E) (HS (tt t) m)) (hk : lx (dX (PP L xs 130)) E = some kk) : Ev (PP L xs) 10 130 0 (entL 5 [vR (some 1), vI c, vI e, vR (some 204)]) [] (HS t m) (.inl (some (vI kk))) (HS (tt t) m) := by
  refine ev_go (pc' := 5) (ls' := [some (vR (some 1)), some (vI c), some (vI e), some (vR (some 204)), none]) (st' := [vI e, vI c, vR (some 1), vI 0, vR (some 204)]) (h1 := HS t m) 5 (by rfl) ?_
  exact ev_catch rfl rfl (Nat.le_of_ble_eq_true rfl) hE ⟨Nat.le_succ _, Nat.le_add_right _ _⟩ rfl hk rfl
set_option maxRecDepth 10000 in
theorem lo_text0 {L : Nat} {xs : Nat → Int32} {t : Bool × Nat × Nat} {m : mMM} {c e : Int} {m1 : mMM} (hE : Ev (PP L xs) 9 65 0 (entL 3 [vR (some 1), vI c, vI e]) [] (HS t m) (.inl (some (vI 0))) (HS t m1)) : Ev (PP L xs) 10 130 0 (entL 5 [vR (some 1), vI c, vI e, vR (some 204)]) [] (HS t m) (.inl (some (vI 0))) (HS t (up m1 204 0 0)) := by
  refine ev_go (pc' := 5) (ls' := [some (vR (some 1)), some (vI c), some (vI e), some (vR (some 204)), none]) (st' := [vI e, vI c, vR (some 1), vI 0, vR (some 204)]) (h1 := HS t m) 5 (by rfl) ?_
  refine ev_call rfl rfl (Nat.le_of_ble_eq_true rfl) hE ⟨Nat.le_refl _, Nat.le_refl _⟩ ?_
  show Ev (PP L xs) _ 130 8 [some (vR (some 1)), some (vI c), some (vI e), some (vR (some 204)), none] [vI 0, vI 0, vR (some 204)] (HS t m1) _ _
  refine ev_if0 rfl rfl (fun c8 => ?_) (fun c8 => absurd c8 (by decide))
  refine ev_go (pc' := 16) (ls' := [some (vR (some 1)), some (vI c), some (vI e), some (vR (some 204)), none]) (st' := [vJ 0, vI 0, vR (some 204)]) (h1 := HS t m1) 1 (by rfl) ?_
  refine ev_last (k := 0) rfl rfl rfl (by omega) ?_
  refine ev_go (pc' := 25) (ls' := [some (vR (some 1)), some (vI c), some (vI e), some (vR (some 204)), none]) (st' := [vI 0]) (h1 := HS t (up m1 204 0 0)) 2 (by rfl) ?_
  exact ev_retE rfl rfl (by first | rfl | (simp [*]; done) | (split <;> first | rfl | (exfalso; omega))) (by first | rfl | (simp [*]; done) | (split <;> first | rfl | (exfalso; omega)))
set_option maxRecDepth 10000 in
theorem lo_text1 {L : Nat} {xs : Nat → Int32} {t : Bool × Nat × Nat} {m : mMM} {c e : Int} {m1 : mMM} (hE : Ev (PP L xs) 9 65 0 (entL 3 [vR (some 1), vI c, vI e]) [] (HS t m) (.inl (some (vI 1))) (HS t m1)) : Ev (PP L xs) 10 130 0 (entL 5 [vR (some 1), vI c, vI e, vR (some 204)]) [] (HS t m) (.inl (some (vI 0))) (HS t (up m1 204 0 1)) := by
  refine ev_go (pc' := 5) (ls' := [some (vR (some 1)), some (vI c), some (vI e), some (vR (some 204)), none]) (st' := [vI e, vI c, vR (some 1), vI 0, vR (some 204)]) (h1 := HS t m) 5 (by rfl) ?_
  refine ev_call rfl rfl (Nat.le_of_ble_eq_true rfl) hE ⟨Nat.le_refl _, Nat.le_refl _⟩ ?_
  show Ev (PP L xs) _ 130 8 [some (vR (some 1)), some (vI c), some (vI e), some (vR (some 204)), none] [vI 1, vI 0, vR (some 204)] (HS t m1) _ _
  refine ev_if0 rfl rfl (fun c8 => absurd c8 (by decide)) (fun c8 => ?_)
  refine ev_go (pc' := 16) (ls' := [some (vR (some 1)), some (vI c), some (vI e), some (vR (some 204)), none]) (st' := [vJ 1, vI 0, vR (some 204)]) (h1 := HS t m1) 2 (by rfl) ?_
  refine ev_last (k := 0) rfl rfl rfl (by omega) ?_
  refine ev_go (pc' := 25) (ls' := [some (vR (some 1)), some (vI c), some (vI e), some (vR (some 204)), none]) (st' := [vI 0]) (h1 := HS t (up m1 204 0 1)) 2 (by rfl) ?_
  exact ev_retE rfl rfl (by first | rfl | (simp [*]; done) | (split <;> first | rfl | (exfalso; omega))) (by first | rfl | (simp [*]; done) | (split <;> first | rfl | (exfalso; omega)))
set_option maxRecDepth 10000 in
theorem lx_word {L : Nat} {xs : Nat → Int32} {t : Bool × Nat × Nat} {m : mMM} { kk : Int} {E : Nat} (hE : Ev (PP L xs) 9 66 0 (entL 1 [vR (some 1)]) [] (HS t m) (.inr E) (HS (tt t) m)) (hk : lx (dX (PP L xs 131)) E = some kk) : Ev (PP L xs) 10 131 0 (entL 3 [vR (some 1), vR (some 204)]) [] (HS t m) (.inl (some (vI kk))) (HS (tt t) m) := by
  refine ev_go (pc' := 3) (ls' := [some (vR (some 1)), some (vR (some 204)), none]) (st' := [vR (some 1), vI 0, vR (some 204)]) (h1 := HS t m) 3 (by rfl) ?_
  exact ev_catch rfl rfl (Nat.le_of_ble_eq_true rfl) hE ⟨Nat.le_succ _, Nat.le_add_right _ _⟩ rfl hk rfl
set_option maxRecDepth 10000 in
theorem lo_word {L : Nat} {xs : Nat → Int32} {t : Bool × Nat × Nat} {m : mMM} {v : Int} {m1 : mMM} (hE : Ev (PP L xs) 9 66 0 (entL 1 [vR (some 1)]) [] (HS t m) (.inl (some (vI v))) (HS t m1)) (hv : inI v = true) : Ev (PP L xs) 10 131 0 (entL 3 [vR (some 1), vR (some 204)]) [] (HS t m) (.inl (some (vI 0))) (HS t (up m1 204 0 v)) := by
  refine ev_go (pc' := 3) (ls' := [some (vR (some 1)), some (vR (some 204)), none]) (st' := [vR (some 1), vI 0, vR (some 204)]) (h1 := HS t m) 3 (by rfl) ?_
  refine ev_call rfl rfl (Nat.le_of_ble_eq_true rfl) hE ⟨Nat.le_refl _, Nat.le_refl _⟩ ?_
  show Ev (PP L xs) _ 131 6 [some (vR (some 1)), some (vR (some 204)), none] [vI v, vI 0, vR (some 204)] (HS t m1) _ _
  refine ev_i2l rfl hv ?_
  refine ev_last (k := 0) rfl rfl rfl (by omega) ?_
  refine ev_go (pc' := 15) (ls' := [some (vR (some 1)), some (vR (some 204)), none]) (st' := [vI 0]) (h1 := HS t (up m1 204 0 v)) 2 (by rfl) ?_
  exact ev_retE rfl rfl (by first | rfl | (simp [*]; done) | (split <;> first | rfl | (exfalso; omega))) (by first | rfl | (simp [*]; done) | (split <;> first | rfl | (exfalso; omega)))
set_option maxRecDepth 10000 in
theorem lx_lock {L : Nat} {xs : Nat → Int32} {t : Bool × Nat × Nat} {m : mMM} {c e kk : Int} {E : Nat} (hE : Ev (PP L xs) 9 68 0 (entL 3 [vR (some 1), vI c, vI e]) [] (HS t m) (.inr E) (HS (tt t) m)) (hk : lx (dX (PP L xs 132)) E = some kk) : Ev (PP L xs) 10 132 0 (entL 5 [vR (some 1), vI c, vI e, vR (some 204)]) [] (HS t m) (.inl (some (vI kk))) (HS (tt t) m) := by
  refine ev_go (pc' := 5) (ls' := [some (vR (some 1)), some (vI c), some (vI e), some (vR (some 204)), none]) (st' := [vI e, vI c, vR (some 1), vI 0, vR (some 204)]) (h1 := HS t m) 5 (by rfl) ?_
  exact ev_catch rfl rfl (Nat.le_of_ble_eq_true rfl) hE ⟨Nat.le_succ _, Nat.le_add_right _ _⟩ rfl hk rfl
set_option maxRecDepth 10000 in
theorem lo_lock {L : Nat} {xs : Nat → Int32} {t : Bool × Nat × Nat} {m : mMM} {c e v : Int} {m1 : mMM} (hE : Ev (PP L xs) 9 68 0 (entL 3 [vR (some 1), vI c, vI e]) [] (HS t m) (.inl (some (vI v))) (HS t m1)) (hv : inI v = true) : Ev (PP L xs) 10 132 0 (entL 5 [vR (some 1), vI c, vI e, vR (some 204)]) [] (HS t m) (.inl (some (vI 0))) (HS t (up m1 204 0 v)) := by
  refine ev_go (pc' := 5) (ls' := [some (vR (some 1)), some (vI c), some (vI e), some (vR (some 204)), none]) (st' := [vI e, vI c, vR (some 1), vI 0, vR (some 204)]) (h1 := HS t m) 5 (by rfl) ?_
  refine ev_call rfl rfl (Nat.le_of_ble_eq_true rfl) hE ⟨Nat.le_refl _, Nat.le_refl _⟩ ?_
  show Ev (PP L xs) _ 132 8 [some (vR (some 1)), some (vI c), some (vI e), some (vR (some 204)), none] [vI v, vI 0, vR (some 204)] (HS t m1) _ _
  refine ev_i2l rfl hv ?_
  refine ev_last (k := 0) rfl rfl rfl (by omega) ?_
  refine ev_go (pc' := 18) (ls' := [some (vR (some 1)), some (vI c), some (vI e), some (vR (some 204)), none]) (st' := [vI 0]) (h1 := HS t (up m1 204 0 v)) 2 (by rfl) ?_
  exact ev_retE rfl rfl (by first | rfl | (simp [*]; done) | (split <;> first | rfl | (exfalso; omega))) (by first | rfl | (simp [*]; done) | (split <;> first | rfl | (exfalso; omega)))
set_option maxRecDepth 10000 in
theorem lx_weight {L : Nat} {xs : Nat → Int32} {t : Bool × Nat × Nat} {m : mMM} {c kk : Int} {E : Nat} (hE : Ev (PP L xs) 9 69 0 (entL 2 [vR (some 1), vI c]) [] (HS t m) (.inr E) (HS (tt t) m)) (hk : lx (dX (PP L xs 133)) E = some kk) : Ev (PP L xs) 10 133 0 (entL 4 [vR (some 1), vI c, vR (some 204)]) [] (HS t m) (.inl (some (vI kk))) (HS (tt t) m) := by
  refine ev_go (pc' := 4) (ls' := [some (vR (some 1)), some (vI c), some (vR (some 204)), none]) (st' := [vI c, vR (some 1), vI 0, vR (some 204)]) (h1 := HS t m) 4 (by rfl) ?_
  exact ev_catch rfl rfl (Nat.le_of_ble_eq_true rfl) hE ⟨Nat.le_succ _, Nat.le_add_right _ _⟩ rfl hk rfl
set_option maxRecDepth 10000 in
theorem lo_weight {L : Nat} {xs : Nat → Int32} {t : Bool × Nat × Nat} {m : mMM} {c v : Int} {m1 : mMM} (hE : Ev (PP L xs) 9 69 0 (entL 2 [vR (some 1), vI c]) [] (HS t m) (.inl (some (vI v))) (HS t m1)) (hv : inI v = true) : Ev (PP L xs) 10 133 0 (entL 4 [vR (some 1), vI c, vR (some 204)]) [] (HS t m) (.inl (some (vI 0))) (HS t (up m1 204 0 v)) := by
  refine ev_go (pc' := 4) (ls' := [some (vR (some 1)), some (vI c), some (vR (some 204)), none]) (st' := [vI c, vR (some 1), vI 0, vR (some 204)]) (h1 := HS t m) 4 (by rfl) ?_
  refine ev_call rfl rfl (Nat.le_of_ble_eq_true rfl) hE ⟨Nat.le_refl _, Nat.le_refl _⟩ ?_
  show Ev (PP L xs) _ 133 7 [some (vR (some 1)), some (vI c), some (vR (some 204)), none] [vI v, vI 0, vR (some 204)] (HS t m1) _ _
  refine ev_i2l rfl hv ?_
  refine ev_last (k := 0) rfl rfl rfl (by omega) ?_
  refine ev_go (pc' := 19) (ls' := [some (vR (some 1)), some (vI c), some (vR (some 204)), none]) (st' := [vI 0]) (h1 := HS t (up m1 204 0 v)) 2 (by rfl) ?_
  exact ev_retE rfl rfl (by first | rfl | (simp [*]; done) | (split <;> first | rfl | (exfalso; omega))) (by first | rfl | (simp [*]; done) | (split <;> first | rfl | (exfalso; omega)))
set_option maxRecDepth 10000 in
theorem lx_step {L : Nat} {xs : Nat → Int32} {t : Bool × Nat × Nat} {m : mMM} {c e kk : Int} {E : Nat} (hE : Ev (PP L xs) 9 70 0 (entL 3 [vR (some 1), vI c, vI e]) [] (HS t m) (.inr E) (HS (tt t) m)) (hk : lx (dX (PP L xs 134)) E = some kk) : Ev (PP L xs) 10 134 0 (entL 5 [vR (some 1), vI c, vI e, vR (some 204)]) [] (HS t m) (.inl (some (vI kk))) (HS (tt t) m) := by
  refine ev_go (pc' := 5) (ls' := [some (vR (some 1)), some (vI c), some (vI e), some (vR (some 204)), none]) (st' := [vI e, vI c, vR (some 1), vI 0, vR (some 204)]) (h1 := HS t m) 5 (by rfl) ?_
  exact ev_catch rfl rfl (Nat.le_of_ble_eq_true rfl) hE ⟨Nat.le_succ _, Nat.le_add_right _ _⟩ rfl hk rfl
set_option maxRecDepth 10000 in
theorem lo_step {L : Nat} {xs : Nat → Int32} {t : Bool × Nat × Nat} {m : mMM} {c e v : Int} {m1 : mMM} (hE : Ev (PP L xs) 9 70 0 (entL 3 [vR (some 1), vI c, vI e]) [] (HS t m) (.inl (some (vI v))) (HS t m1)) (hv : inI v = true) : Ev (PP L xs) 10 134 0 (entL 5 [vR (some 1), vI c, vI e, vR (some 204)]) [] (HS t m) (.inl (some (vI 0))) (HS t (up m1 204 0 v)) := by
  refine ev_go (pc' := 5) (ls' := [some (vR (some 1)), some (vI c), some (vI e), some (vR (some 204)), none]) (st' := [vI e, vI c, vR (some 1), vI 0, vR (some 204)]) (h1 := HS t m) 5 (by rfl) ?_
  refine ev_call rfl rfl (Nat.le_of_ble_eq_true rfl) hE ⟨Nat.le_refl _, Nat.le_refl _⟩ ?_
  show Ev (PP L xs) _ 134 8 [some (vR (some 1)), some (vI c), some (vI e), some (vR (some 204)), none] [vI v, vI 0, vR (some 204)] (HS t m1) _ _
  refine ev_i2l rfl hv ?_
  refine ev_last (k := 0) rfl rfl rfl (by omega) ?_
  refine ev_go (pc' := 18) (ls' := [some (vR (some 1)), some (vI c), some (vI e), some (vR (some 204)), none]) (st' := [vI 0]) (h1 := HS t (up m1 204 0 v)) 2 (by rfl) ?_
  exact ev_retE rfl rfl (by first | rfl | (simp [*]; done) | (split <;> first | rfl | (exfalso; omega))) (by first | rfl | (simp [*]; done) | (split <;> first | rfl | (exfalso; omega)))
set_option maxRecDepth 10000 in
theorem lx_path {L : Nat} {xs : Nat → Int32} {t : Bool × Nat × Nat} {m : mMM} {c e kk : Int} {E : Nat} (hE : Ev (PP L xs) 9 71 0 (entL 3 [vR (some 1), vI c, vI e]) [] (HS t m) (.inr E) (HS (tt t) m)) (hk : lx (dX (PP L xs 135)) E = some kk) : Ev (PP L xs) 10 135 0 (entL 5 [vR (some 1), vI c, vI e, vR (some 204)]) [] (HS t m) (.inl (some (vI kk))) (HS (tt t) m) := by
  refine ev_go (pc' := 5) (ls' := [some (vR (some 1)), some (vI c), some (vI e), some (vR (some 204)), none]) (st' := [vI e, vI c, vR (some 1), vI 0, vR (some 204)]) (h1 := HS t m) 5 (by rfl) ?_
  exact ev_catch rfl rfl (Nat.le_of_ble_eq_true rfl) hE ⟨Nat.le_succ _, Nat.le_add_right _ _⟩ rfl hk rfl
set_option maxRecDepth 10000 in
theorem lo_path {L : Nat} {xs : Nat → Int32} {t : Bool × Nat × Nat} {m : mMM} {c e v : Int} {m1 : mMM} (hE : Ev (PP L xs) 9 71 0 (entL 3 [vR (some 1), vI c, vI e]) [] (HS t m) (.inl (some (vI v))) (HS t m1)) (hv : inI v = true) : Ev (PP L xs) 10 135 0 (entL 5 [vR (some 1), vI c, vI e, vR (some 204)]) [] (HS t m) (.inl (some (vI 0))) (HS t (up m1 204 0 v)) := by
  refine ev_go (pc' := 5) (ls' := [some (vR (some 1)), some (vI c), some (vI e), some (vR (some 204)), none]) (st' := [vI e, vI c, vR (some 1), vI 0, vR (some 204)]) (h1 := HS t m) 5 (by rfl) ?_
  refine ev_call rfl rfl (Nat.le_of_ble_eq_true rfl) hE ⟨Nat.le_refl _, Nat.le_refl _⟩ ?_
  show Ev (PP L xs) _ 135 8 [some (vR (some 1)), some (vI c), some (vI e), some (vR (some 204)), none] [vI v, vI 0, vR (some 204)] (HS t m1) _ _
  refine ev_i2l rfl hv ?_
  refine ev_last (k := 0) rfl rfl rfl (by omega) ?_
  refine ev_go (pc' := 18) (ls' := [some (vR (some 1)), some (vI c), some (vI e), some (vR (some 204)), none]) (st' := [vI 0]) (h1 := HS t (up m1 204 0 v)) 2 (by rfl) ?_
  exact ev_retE rfl rfl (by first | rfl | (simp [*]; done) | (split <;> first | rfl | (exfalso; omega))) (by first | rfl | (simp [*]; done) | (split <;> first | rfl | (exfalso; omega)))
set_option maxRecDepth 10000 in
theorem lx_pathAnew {L : Nat} {xs : Nat → Int32} {t : Bool × Nat × Nat} {m : mMM} {c e kk : Int} {E : Nat} (hE : Ev (PP L xs) 9 72 0 (entL 3 [vR (some 1), vI c, vI e]) [] (HS t m) (.inr E) (HS (tt t) m)) (hk : lx (dX (PP L xs 136)) E = some kk) : Ev (PP L xs) 10 136 0 (entL 5 [vR (some 1), vI c, vI e, vR (some 204)]) [] (HS t m) (.inl (some (vI kk))) (HS (tt t) m) := by
  refine ev_go (pc' := 5) (ls' := [some (vR (some 1)), some (vI c), some (vI e), some (vR (some 204)), none]) (st' := [vI e, vI c, vR (some 1), vI 0, vR (some 204)]) (h1 := HS t m) 5 (by rfl) ?_
  exact ev_catch rfl rfl (Nat.le_of_ble_eq_true rfl) hE ⟨Nat.le_succ _, Nat.le_add_right _ _⟩ rfl hk rfl
set_option maxRecDepth 10000 in
theorem lo_pathAnew {L : Nat} {xs : Nat → Int32} {t : Bool × Nat × Nat} {m : mMM} {c e v : Int} {m1 : mMM} (hE : Ev (PP L xs) 9 72 0 (entL 3 [vR (some 1), vI c, vI e]) [] (HS t m) (.inl (some (vI v))) (HS t m1)) (hv : inI v = true) : Ev (PP L xs) 10 136 0 (entL 5 [vR (some 1), vI c, vI e, vR (some 204)]) [] (HS t m) (.inl (some (vI 0))) (HS t (up m1 204 0 v)) := by
  refine ev_go (pc' := 5) (ls' := [some (vR (some 1)), some (vI c), some (vI e), some (vR (some 204)), none]) (st' := [vI e, vI c, vR (some 1), vI 0, vR (some 204)]) (h1 := HS t m) 5 (by rfl) ?_
  refine ev_call rfl rfl (Nat.le_of_ble_eq_true rfl) hE ⟨Nat.le_refl _, Nat.le_refl _⟩ ?_
  show Ev (PP L xs) _ 136 8 [some (vR (some 1)), some (vI c), some (vI e), some (vR (some 204)), none] [vI v, vI 0, vR (some 204)] (HS t m1) _ _
  refine ev_i2l rfl hv ?_
  refine ev_last (k := 0) rfl rfl rfl (by omega) ?_
  refine ev_go (pc' := 18) (ls' := [some (vR (some 1)), some (vI c), some (vI e), some (vR (some 204)), none]) (st' := [vI 0]) (h1 := HS t (up m1 204 0 v)) 2 (by rfl) ?_
  exact ev_retE rfl rfl (by first | rfl | (simp [*]; done) | (split <;> first | rfl | (exfalso; omega))) (by first | rfl | (simp [*]; done) | (split <;> first | rfl | (exfalso; omega)))
set_option maxRecDepth 10000 in
theorem lx_product {L : Nat} {xs : Nat → Int32} {t : Bool × Nat × Nat} {m : mMM} {c kk : Int} {E : Nat} (hE : Ev (PP L xs) 9 73 0 (entL 2 [vR (some 1), vI c]) [] (HS t m) (.inr E) (HS (tt t) m)) (hk : lx (dX (PP L xs 137)) E = some kk) : Ev (PP L xs) 10 137 0 (entL 4 [vR (some 1), vI c, vR (some 204)]) [] (HS t m) (.inl (some (vI kk))) (HS (tt t) m) := by
  refine ev_go (pc' := 4) (ls' := [some (vR (some 1)), some (vI c), some (vR (some 204)), none]) (st' := [vI c, vR (some 1), vI 0, vR (some 204)]) (h1 := HS t m) 4 (by rfl) ?_
  exact ev_catch rfl rfl (Nat.le_of_ble_eq_true rfl) hE ⟨Nat.le_succ _, Nat.le_add_right _ _⟩ rfl hk rfl
set_option maxRecDepth 10000 in
theorem lo_product {L : Nat} {xs : Nat → Int32} {t : Bool × Nat × Nat} {m : mMM} {c v : Int} {m1 : mMM} (hE : Ev (PP L xs) 9 73 0 (entL 2 [vR (some 1), vI c]) [] (HS t m) (.inl (some (vJ v))) (HS t m1)) : Ev (PP L xs) 10 137 0 (entL 4 [vR (some 1), vI c, vR (some 204)]) [] (HS t m) (.inl (some (vI 0))) (HS t (up m1 204 0 v)) := by
  refine ev_go (pc' := 4) (ls' := [some (vR (some 1)), some (vI c), some (vR (some 204)), none]) (st' := [vI c, vR (some 1), vI 0, vR (some 204)]) (h1 := HS t m) 4 (by rfl) ?_
  refine ev_call rfl rfl (Nat.le_of_ble_eq_true rfl) hE ⟨Nat.le_refl _, Nat.le_refl _⟩ ?_
  show Ev (PP L xs) _ 137 7 [some (vR (some 1)), some (vI c), some (vR (some 204)), none] [vJ v, vI 0, vR (some 204)] (HS t m1) _ _
  refine ev_last (k := 0) rfl rfl rfl (by omega) ?_
  refine ev_go (pc' := 18) (ls' := [some (vR (some 1)), some (vI c), some (vR (some 204)), none]) (st' := [vI 0]) (h1 := HS t (up m1 204 0 v)) 2 (by rfl) ?_
  exact ev_retE rfl rfl (by first | rfl | (simp [*]; done) | (split <;> first | rfl | (exfalso; omega))) (by first | rfl | (simp [*]; done) | (split <;> first | rfl | (exfalso; omega)))
set_option maxRecDepth 10000 in
theorem lx_cost {L : Nat} {xs : Nat → Int32} {t : Bool × Nat × Nat} {m : mMM} { kk : Int} {E : Nat} (hE : Ev (PP L xs) 9 74 0 (entL 1 [vR (some 1)]) [] (HS t m) (.inr E) (HS (tt t) m)) (hk : lx (dX (PP L xs 138)) E = some kk) : Ev (PP L xs) 10 138 0 (entL 3 [vR (some 1), vR (some 204)]) [] (HS t m) (.inl (some (vI kk))) (HS (tt t) m) := by
  refine ev_go (pc' := 3) (ls' := [some (vR (some 1)), some (vR (some 204)), none]) (st' := [vR (some 1), vI 0, vR (some 204)]) (h1 := HS t m) 3 (by rfl) ?_
  exact ev_catch rfl rfl (Nat.le_of_ble_eq_true rfl) hE ⟨Nat.le_succ _, Nat.le_add_right _ _⟩ rfl hk rfl
set_option maxRecDepth 10000 in
theorem lo_cost {L : Nat} {xs : Nat → Int32} {t : Bool × Nat × Nat} {m : mMM} {v : Int} {m1 : mMM} (hE : Ev (PP L xs) 9 74 0 (entL 1 [vR (some 1)]) [] (HS t m) (.inl (some (vI v))) (HS t m1)) (hv : inI v = true) : Ev (PP L xs) 10 138 0 (entL 3 [vR (some 1), vR (some 204)]) [] (HS t m) (.inl (some (vI 0))) (HS t (up m1 204 0 v)) := by
  refine ev_go (pc' := 3) (ls' := [some (vR (some 1)), some (vR (some 204)), none]) (st' := [vR (some 1), vI 0, vR (some 204)]) (h1 := HS t m) 3 (by rfl) ?_
  refine ev_call rfl rfl (Nat.le_of_ble_eq_true rfl) hE ⟨Nat.le_refl _, Nat.le_refl _⟩ ?_
  show Ev (PP L xs) _ 138 6 [some (vR (some 1)), some (vR (some 204)), none] [vI v, vI 0, vR (some 204)] (HS t m1) _ _
  refine ev_i2l rfl hv ?_
  refine ev_last (k := 0) rfl rfl rfl (by omega) ?_
  refine ev_go (pc' := 15) (ls' := [some (vR (some 1)), some (vR (some 204)), none]) (st' := [vI 0]) (h1 := HS t (up m1 204 0 v)) 2 (by rfl) ?_
  exact ev_retE rfl rfl (by first | rfl | (simp [*]; done) | (split <;> first | rfl | (exfalso; omega))) (by first | rfl | (simp [*]; done) | (split <;> first | rfl | (exfalso; omega)))
set_option maxRecDepth 10000 in
theorem lx_share {L : Nat} {xs : Nat → Int32} {t : Bool × Nat × Nat} {m : mMM} {c e kk : Int} {E : Nat} (hE : Ev (PP L xs) 9 75 0 (entL 3 [vR (some 1), vI c, vI e]) [] (HS t m) (.inr E) (HS (tt t) m)) (hk : lx (dX (PP L xs 139)) E = some kk) : Ev (PP L xs) 10 139 0 (entL 5 [vR (some 1), vI c, vI e, vR (some 204)]) [] (HS t m) (.inl (some (vI kk))) (HS (tt t) m) := by
  refine ev_go (pc' := 5) (ls' := [some (vR (some 1)), some (vI c), some (vI e), some (vR (some 204)), none]) (st' := [vI e, vI c, vR (some 1), vI 0, vR (some 204)]) (h1 := HS t m) 5 (by rfl) ?_
  exact ev_catch rfl rfl (Nat.le_of_ble_eq_true rfl) hE ⟨Nat.le_succ _, Nat.le_add_right _ _⟩ rfl hk rfl
set_option maxRecDepth 10000 in
theorem lo_share {L : Nat} {xs : Nat → Int32} {t : Bool × Nat × Nat} {m : mMM} {c e v : Int} {m1 : mMM} (hE : Ev (PP L xs) 9 75 0 (entL 3 [vR (some 1), vI c, vI e]) [] (HS t m) (.inl (some (vI v))) (HS t m1)) (hv : inI v = true) : Ev (PP L xs) 10 139 0 (entL 5 [vR (some 1), vI c, vI e, vR (some 204)]) [] (HS t m) (.inl (some (vI 0))) (HS t (up m1 204 0 v)) := by
  refine ev_go (pc' := 5) (ls' := [some (vR (some 1)), some (vI c), some (vI e), some (vR (some 204)), none]) (st' := [vI e, vI c, vR (some 1), vI 0, vR (some 204)]) (h1 := HS t m) 5 (by rfl) ?_
  refine ev_call rfl rfl (Nat.le_of_ble_eq_true rfl) hE ⟨Nat.le_refl _, Nat.le_refl _⟩ ?_
  show Ev (PP L xs) _ 139 8 [some (vR (some 1)), some (vI c), some (vI e), some (vR (some 204)), none] [vI v, vI 0, vR (some 204)] (HS t m1) _ _
  refine ev_i2l rfl hv ?_
  refine ev_last (k := 0) rfl rfl rfl (by omega) ?_
  refine ev_go (pc' := 18) (ls' := [some (vR (some 1)), some (vI c), some (vI e), some (vR (some 204)), none]) (st' := [vI 0]) (h1 := HS t (up m1 204 0 v)) 2 (by rfl) ?_
  exact ev_retE rfl rfl (by first | rfl | (simp [*]; done) | (split <;> first | rfl | (exfalso; omega))) (by first | rfl | (simp [*]; done) | (split <;> first | rfl | (exfalso; omega)))
set_option maxRecDepth 10000 in
theorem lx_shareAnew {L : Nat} {xs : Nat → Int32} {t : Bool × Nat × Nat} {m : mMM} {c e kk : Int} {E : Nat} (hE : Ev (PP L xs) 9 76 0 (entL 3 [vR (some 1), vI c, vI e]) [] (HS t m) (.inr E) (HS (tt t) m)) (hk : lx (dX (PP L xs 140)) E = some kk) : Ev (PP L xs) 10 140 0 (entL 5 [vR (some 1), vI c, vI e, vR (some 204)]) [] (HS t m) (.inl (some (vI kk))) (HS (tt t) m) := by
  refine ev_go (pc' := 5) (ls' := [some (vR (some 1)), some (vI c), some (vI e), some (vR (some 204)), none]) (st' := [vI e, vI c, vR (some 1), vI 0, vR (some 204)]) (h1 := HS t m) 5 (by rfl) ?_
  exact ev_catch rfl rfl (Nat.le_of_ble_eq_true rfl) hE ⟨Nat.le_succ _, Nat.le_add_right _ _⟩ rfl hk rfl
set_option maxRecDepth 10000 in
theorem lo_shareAnew {L : Nat} {xs : Nat → Int32} {t : Bool × Nat × Nat} {m : mMM} {c e v : Int} {m1 : mMM} (hE : Ev (PP L xs) 9 76 0 (entL 3 [vR (some 1), vI c, vI e]) [] (HS t m) (.inl (some (vI v))) (HS t m1)) (hv : inI v = true) : Ev (PP L xs) 10 140 0 (entL 5 [vR (some 1), vI c, vI e, vR (some 204)]) [] (HS t m) (.inl (some (vI 0))) (HS t (up m1 204 0 v)) := by
  refine ev_go (pc' := 5) (ls' := [some (vR (some 1)), some (vI c), some (vI e), some (vR (some 204)), none]) (st' := [vI e, vI c, vR (some 1), vI 0, vR (some 204)]) (h1 := HS t m) 5 (by rfl) ?_
  refine ev_call rfl rfl (Nat.le_of_ble_eq_true rfl) hE ⟨Nat.le_refl _, Nat.le_refl _⟩ ?_
  show Ev (PP L xs) _ 140 8 [some (vR (some 1)), some (vI c), some (vI e), some (vR (some 204)), none] [vI v, vI 0, vR (some 204)] (HS t m1) _ _
  refine ev_i2l rfl hv ?_
  refine ev_last (k := 0) rfl rfl rfl (by omega) ?_
  refine ev_go (pc' := 18) (ls' := [some (vR (some 1)), some (vI c), some (vI e), some (vR (some 204)), none]) (st' := [vI 0]) (h1 := HS t (up m1 204 0 v)) 2 (by rfl) ?_
  exact ev_retE rfl rfl (by first | rfl | (simp [*]; done) | (split <;> first | rfl | (exfalso; omega))) (by first | rfl | (simp [*]; done) | (split <;> first | rfl | (exfalso; omega)))
set_option maxRecDepth 10000 in
theorem x_clear10 {L : Nat} {xs : Nat → Int32} {t : Bool × Nat × Nat} {m : mMM}  : Ev (PP L xs) 10 67 0 (entL 1 [vR (some 1)]) [] (HS t m) (.inl (some (vI (m 75 2)))) (HS t (up m 75 2 0)) := by
  refine ev_go (pc' := 1) (ls' := [some (vR (some 1))]) (st' := [vR (some 1)]) (h1 := HS t m) 1 (by rfl) ?_
  refine ev_getR rfl rfl (rfl : rf 1 2 = some 75) ?_
  refine ev_call rfl rfl (Nat.le_of_ble_eq_true rfl) c_se_removeAll ⟨Nat.le_refl _, Nat.le_refl _⟩ ?_
  show Ev (PP L xs) _ 67 7 [some (vR (some 1))] [vI (m 75 2)] (HS t (up m 75 2 0)) _ _
  exact ev_retE rfl rfl (by first | rfl | (simp [*]; done) | (split <;> first | rfl | (exfalso; omega))) (by first | rfl | (simp [*]; done) | (split <;> first | rfl | (exfalso; omega)))
set_option maxRecDepth 10000 in
theorem x_texts10 {L : Nat} {xs : Nat → Int32} {t : Bool × Nat × Nat} {m : mMM}  : Ev (PP L xs) 10 77 0 (entL 1 [vR (some 1)]) [] (HS t m) (.inl (some (vI (m 3 4)))) (HS t m) := by
  refine ev_go (pc' := 1) (ls' := [some (vR (some 1))]) (st' := [vR (some 1)]) (h1 := HS t m) 1 (by rfl) ?_
  refine ev_getR rfl rfl (rfl : rf 1 1 = some 3) ?_
  refine ev_call rfl rfl (Nat.le_of_ble_eq_true rfl) c_co_counting ⟨Nat.le_refl _, Nat.le_refl _⟩ ?_
  show Ev (PP L xs) _ 77 7 [some (vR (some 1))] [vI (m 3 4)] (HS t m) _ _
  exact ev_retE rfl rfl (by first | rfl | (simp [*]; done) | (split <;> first | rfl | (exfalso; omega))) (by first | rfl | (simp [*]; done) | (split <;> first | rfl | (exfalso; omega)))
