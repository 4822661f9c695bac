/-! ===== weighing a word ===== -/
def facF (x : Int) : Int := if x = 4 then 4 else if 0 < x then 2 else 0
theorem facF_bd (x : Int) : 0 ≤ facF x ∧ facF x ≤ 4 := by unfold facF; repeat (first | split | omega)
def wF (fa x : Int) : Int := if fa * x + 1 < 9 then fa * x + 1 else 9
theorem fa_in {fa x : Int} (h0 : 0 ≤ fa) (h4 : fa ≤ 4) (hx : 0 ≤ x) (hx2 : x ≤ 1000) : inI (fa * x + 1) = true := by
  have h1 : 0 ≤ fa * x := Int.mul_nonneg h0 hx
  have h2 : fa * x ≤ 4 * x := Int.mul_le_mul_of_nonneg_right h4 hx
  exact inI_of (by omega) (by omega)
def u5 (m : mMM) (b : Nat) (f : Nat → Int) : mMM := up (up (up (up (up m b 0 (f 0)) b 1 (f 1)) b 2 (f 2)) b 3 (f 3)) b 4 (f 4)
theorem u5_ne (m : mMM) (a : Nat) (f : Nat → Int) {b k : Nat} (h : b ≠ a) : u5 m a f b k = m b k := by
  unfold u5; rw [up_ne1 _ _ h, up_ne1 _ _ h, up_ne1 _ _ h, up_ne1 _ _ h, up_ne1 _ _ h]
theorem u5_0 (m : mMM) (b : Nat) (f : Nat → Int) : u5 m b f b 0 = f 0 := by unfold u5; rw [up_ne2 _ _ (by decide)]; rw [up_ne2 _ _ (by decide)]; rw [up_ne2 _ _ (by decide)]; rw [up_ne2 _ _ (by decide)]; rw [up_eq]
theorem u5_1 (m : mMM) (b : Nat) (f : Nat → Int) : u5 m b f b 1 = f 1 := by unfold u5; rw [up_ne2 _ _ (by decide)]; rw [up_ne2 _ _ (by decide)]; rw [up_ne2 _ _ (by decide)]; rw [up_eq]
theorem u5_2 (m : mMM) (b : Nat) (f : Nat → Int) : u5 m b f b 2 = f 2 := by unfold u5; rw [up_ne2 _ _ (by decide)]; rw [up_ne2 _ _ (by decide)]; rw [up_eq]
theorem u5_3 (m : mMM) (b : Nat) (f : Nat → Int) : u5 m b f b 3 = f 3 := by unfold u5; rw [up_ne2 _ _ (by decide)]; rw [up_eq]
theorem u5_4 (m : mMM) (b : Nat) (f : Nat → Int) : u5 m b f b 4 = f 4 := by unfold u5; rw [up_eq]
theorem u5_at (m : mMM) (b : Nat) (f : Nat → Int) : ∀ k, k < 5 → u5 m b f b k = f k
  | 0, _ => u5_0 m b f
  | 1, _ => u5_1 m b f
  | 2, _ => u5_2 m b f
  | 3, _ => u5_3 m b f
  | 4, _ => u5_4 m b f
  | k + 5, h => absurd h (by omega)
abbrev Tx := List (Int × Nat) × Bool
def gc (C : List Tx) (k : Nat) : Tx := C.getD k ([], false)
def CR (m : mMM) (C : List Tx) : Prop := m 3 3 = (C.length : Int) ∧ C.length ≤ 20 ∧ ∀ i, i < C.length → TXR m (tx i) (gc C i).1 ∧ m (tx i) 3 = (if (gc C i).2 then 1 else 0)
def cntC (w : Int) (s : Int × (Nat → Int)) (x : Tx) : Int × (Nat → Int) := if x.2 then x.1.foldl (cnt w) s else s
theorem gc_get (l : List Tx) {k : Nat} (h : k < l.length) : gc l k = l[k] := by simp [gc, h]
theorem drop_gc {l : List Tx} {i : Nat} (h : i < l.length) : l.drop i = gc l i :: l.drop (i + 1) := by
  rw [gc_get l h]; exact List.drop_eq_getElem_cons h
theorem TXR_fr {m m1 : mMM} {b a : Nat} {l : List (Int × Nat)} (h : FRo m m1 b) (h1 : b ≠ a) (h2 : b ≠ a + 1) (h3 : b ≠ a + 2) (ht : TXR m a l) : TXR m1 a l :=
  ⟨by rw [h a 2 (by omega)]; exact ht.1, ht.2.1, fun k hk => ⟨by rw [h (a + 1) k (by omega)]; exact (ht.2.2 k hk).1, by rw [h (a + 2) k (by omega)]; exact (ht.2.2 k hk).2⟩⟩
theorem CR_fr {m m1 : mMM} {b : Nat} {C : List Tx} (h : FRo m m1 b) (hb : 75 ≤ b) (hc : CR m C) : CR m1 C :=
  ⟨by rw [h 3 3 (by omega)]; exact hc.1, hc.2.1, fun i hi => by
    have h20 := hc.2.1
    have e : tx i = 12 + 3 * i := rfl
    refine ⟨TXR_fr h (by omega) (by omega) (by omega) (hc.2.2 i hi).1, ?_⟩
    rw [h (tx i) 3 (by omega)]; exact (hc.2.2 i hi).2⟩
set_option maxRecDepth 10000 in
theorem c_factorOf {L : Nat} {xs : Nat → Int32} {d : Nat} {t : Bool × Nat × Nat} {m : mMM} {x : Int} (h0 : 0 ≤ x) (h4 : x ≤ 4) : Ev (PP L xs) d 17 0 (entL 1 [vI x]) [] (HS t m) (.inl (some (vI (facF x)))) (HS t m) := by
  refine ev_go (pc' := 2) (ls' := [some (vI x)]) (st' := [vI 4, vI x]) (h1 := HS t m) 2 (by rfl) ?_
  refine ev_ic1 rfl (inI_of (by omega) (by omega)) rfl (fun c2 => ?_) (fun c2 => ?_)
  · refine ev_go (pc' := 8) (ls' := [some (vI x)]) (st' := [vI x]) (h1 := HS t m) 1 (by rfl) ?_
    refine ev_if5 rfl (inI_of (by omega) (by omega)) (fun c8 => ?_) (fun c8 => ?_)
    · refine ev_go (pc' := 16) (ls' := [some (vI x)]) (st' := [vI 0]) (h1 := HS t m) 1 (by rfl) ?_
      exact ev_retE rfl rfl (by show _ = some (vI (facF x)); unfold facF; repeat (first | rw [if_pos (by omega)] | rw [if_neg (by omega)])) rfl
    · refine ev_go (pc' := 16) (ls' := [some (vI x)]) (st' := [vI 2]) (h1 := HS t m) 2 (by rfl) ?_
      exact ev_retE rfl rfl (by show _ = some (vI (facF x)); unfold facF; repeat (first | rw [if_pos (by omega)] | rw [if_neg (by omega)])) rfl
  · refine ev_go (pc' := 6) (ls' := [some (vI x)]) (st' := [vI 4]) (h1 := HS t m) 1 (by rfl) ?_
    exact ev_retE rfl rfl (by show _ = some (vI (facF x)); unfold facF; repeat (first | rw [if_pos (by omega)] | rw [if_neg (by omega)])) rfl
set_option maxRecDepth 10000 in
theorem l_weigh2 {L : Nat} {xs : Nat → Int32} {t : Bool × Nat × Nat} {d b : Nat} {w mo i : Int} {q : Option mMV} {m : mMM} (hb : kd b = (1, 5)) (h0 : 0 ≤ mo) (h4 : mo ≤ 4) (hb0 : ∀ k, k < 5 → 0 ≤ m b k ∧ m b k ≤ 1000) : Ev (PP L xs) (d + 1) 16 51 [some (vR (some 3)), some (vI w), some (vR (some b)), some (vI mo), some (vI i), q] [] (HS t m) (.inl none) (HS t (u5 m b (fun k => wF (facF mo) (m b k)))) := by
  refine ev_go (pc' := 52) (ls' := [some (vR (some 3)), some (vI w), some (vR (some b)), some (vI mo), some (vI i), q]) (st' := [vI mo]) (h1 := HS t m) 1 (by rfl) ?_
  refine ev_call rfl rfl (Nat.le_of_ble_eq_true rfl) (c_factorOf h0 h4) ⟨Nat.le_refl _, Nat.le_refl _⟩ ?_
  show Ev (PP L xs) _ 16 55 [some (vR (some 3)), some (vI w), some (vR (some b)), some (vI mo), some (vI i), q] [vI (facF mo)] (HS t m) _ _
  refine ev_go (pc' := 63) (ls' := [some (vR (some 3)), some (vI w), some (vR (some b)), some (vI mo), some (vI (facF mo)), some (vI 0)]) (st' := [vI 5, vI 0]) (h1 := HS t m) 5 (by rfl) ?_
  refine ev_ic3 rfl rfl rfl (fun c63 => absurd c63 (by decide)) (fun c63 => ?_)
  refine ev_go (pc' := 76) (ls' := [some (vR (some 3)), some (vI w), some (vR (some b)), some (vI mo), some (vI (facF mo)), some (vI 0)]) (st' := [vI 0, vR (some b), vI (facF mo), vI 9, vI 0, vR (some b)]) (h1 := HS t m) 6 (by rfl) ?_
  refine ev_iald (k := 0) rfl hb rfl (by omega) ?_
  refine ev_go (pc' := 80) (ls' := [some (vR (some 3)), some (vI w), some (vR (some b)), some (vI mo), some (vI (facF mo)), some (vI 0)]) (st' := [vI (((facF mo) * (m b 0)) + 1), vI 9, vI 0, vR (some b)]) (h1 := HS t m) 3 (by rfl) ?_
  refine ev_min rfl rfl (fa_in (facF_bd mo).1 (facF_bd mo).2 (hb0 0 (by omega)).1 (hb0 0 (by omega)).2) rfl ?_
  refine ev_iast (k := 0) rfl hb rfl (by omega) ?_
  refine ev_go (pc' := 63) (ls' := [some (vR (some 3)), some (vI w), some (vR (some b)), some (vI mo), some (vI (facF mo)), some (vI 1)]) (st' := [vI 5, vI 1]) (h1 := HS t (up m b 0 (if (((facF mo) * (m b 0)) + 1) < 9 then (((facF mo) * (m b 0)) + 1) else 9))) 4 (by rfl) ?_
  refine ev_ic3 rfl rfl rfl (fun c63 => absurd c63 (by decide)) (fun c63 => ?_)
  refine ev_go (pc' := 76) (ls' := [some (vR (some 3)), some (vI w), some (vR (some b)), some (vI mo), some (vI (facF mo)), some (vI 1)]) (st' := [vI 1, vR (some b), vI (facF mo), vI 9, vI 1, vR (some b)]) (h1 := HS t (up m b 0 (if (((facF mo) * (m b 0)) + 1) < 9 then (((facF mo) * (m b 0)) + 1) else 9))) 6 (by rfl) ?_
  refine ev_ialdv (k := 1) (v := (m b 1)) rfl hb rfl (by omega) (up_ne2 _ _ (by decide)) ?_
  refine ev_go (pc' := 80) (ls' := [some (vR (some 3)), some (vI w), some (vR (some b)), some (vI mo), some (vI (facF mo)), some (vI 1)]) (st' := [vI (((facF mo) * (m b 1)) + 1), vI 9, vI 1, vR (some b)]) (h1 := HS t (up m b 0 (if (((facF mo) * (m b 0)) + 1) < 9 then (((facF mo) * (m b 0)) + 1) else 9))) 3 (by rfl) ?_
  refine ev_min rfl rfl (fa_in (facF_bd mo).1 (facF_bd mo).2 (hb0 1 (by omega)).1 (hb0 1 (by omega)).2) rfl ?_
  refine ev_iast (k := 1) rfl hb rfl (by omega) ?_
  refine ev_go (pc' := 63) (ls' := [some (vR (some 3)), some (vI w), some (vR (some b)), some (vI mo), some (vI (facF mo)), some (vI 2)]) (st' := [vI 5, vI 2]) (h1 := HS t (up (up m b 0 (if (((facF mo) * (m b 0)) + 1) < 9 then (((facF mo) * (m b 0)) + 1) else 9)) b 1 (if (((facF mo) * (m b 1)) + 1) < 9 then (((facF mo) * (m b 1)) + 1) else 9))) 4 (by rfl) ?_
  refine ev_ic3 rfl rfl rfl (fun c63 => absurd c63 (by decide)) (fun c63 => ?_)
  refine ev_go (pc' := 76) (ls' := [some (vR (some 3)), some (vI w), some (vR (some b)), some (vI mo), some (vI (facF mo)), some (vI 2)]) (st' := [vI 2, vR (some b), vI (facF mo), vI 9, vI 2, vR (some b)]) (h1 := HS t (up (up m b 0 (if (((facF mo) * (m b 0)) + 1) < 9 then (((facF mo) * (m b 0)) + 1) else 9)) b 1 (if (((facF mo) * (m b 1)) + 1) < 9 then (((facF mo) * (m b 1)) + 1) else 9))) 6 (by rfl) ?_
  refine ev_ialdv (k := 2) (v := (m b 2)) rfl hb rfl (by omega) ((up_ne2 _ _ (by decide)).trans (up_ne2 _ _ (by decide))) ?_
  refine ev_go (pc' := 80) (ls' := [some (vR (some 3)), some (vI w), some (vR (some b)), some (vI mo), some (vI (facF mo)), some (vI 2)]) (st' := [vI (((facF mo) * (m b 2)) + 1), vI 9, vI 2, vR (some b)]) (h1 := HS t (up (up m b 0 (if (((facF mo) * (m b 0)) + 1) < 9 then (((facF mo) * (m b 0)) + 1) else 9)) b 1 (if (((facF mo) * (m b 1)) + 1) < 9 then (((facF mo) * (m b 1)) + 1) else 9))) 3 (by rfl) ?_
  refine ev_min rfl rfl (fa_in (facF_bd mo).1 (facF_bd mo).2 (hb0 2 (by omega)).1 (hb0 2 (by omega)).2) rfl ?_
  refine ev_iast (k := 2) rfl hb rfl (by omega) ?_
  refine ev_go (pc' := 63) (ls' := [some (vR (some 3)), some (vI w), some (vR (some b)), some (vI mo), some (vI (facF mo)), some (vI 3)]) (st' := [vI 5, vI 3]) (h1 := HS t (up (up (up m b 0 (if (((facF mo) * (m b 0)) + 1) < 9 then (((facF mo) * (m b 0)) + 1) else 9)) b 1 (if (((facF mo) * (m b 1)) + 1) < 9 then (((facF mo) * (m b 1)) + 1) else 9)) b 2 (if (((facF mo) * (m b 2)) + 1) < 9 then (((facF mo) * (m b 2)) + 1) else 9))) 4 (by rfl) ?_
  refine ev_ic3 rfl rfl rfl (fun c63 => absurd c63 (by decide)) (fun c63 => ?_)
  refine ev_go (pc' := 76) (ls' := [some (vR (some 3)), some (vI w), some (vR (some b)), some (vI mo), some (vI (facF mo)), some (vI 3)]) (st' := [vI 3, vR (some b), vI (facF mo), vI 9, vI 3, vR (some b)]) (h1 := HS t (up (up (up m b 0 (if (((facF mo) * (m b 0)) + 1) < 9 then (((facF mo) * (m b 0)) + 1) else 9)) b 1 (if (((facF mo) * (m b 1)) + 1) < 9 then (((facF mo) * (m b 1)) + 1) else 9)) b 2 (if (((facF mo) * (m b 2)) + 1) < 9 then (((facF mo) * (m b 2)) + 1) else 9))) 6 (by rfl) ?_
  refine ev_ialdv (k := 3) (v := (m b 3)) rfl hb rfl (by omega) ((up_ne2 _ _ (by decide)).trans ((up_ne2 _ _ (by decide)).trans (up_ne2 _ _ (by decide)))) ?_
  refine ev_go (pc' := 80) (ls' := [some (vR (some 3)), some (vI w), some (vR (some b)), some (vI mo), some (vI (facF mo)), some (vI 3)]) (st' := [vI (((facF mo) * (m b 3)) + 1), vI 9, vI 3, vR (some b)]) (h1 := HS t (up (up (up m b 0 (if (((facF mo) * (m b 0)) + 1) < 9 then (((facF mo) * (m b 0)) + 1) else 9)) b 1 (if (((facF mo) * (m b 1)) + 1) < 9 then (((facF mo) * (m b 1)) + 1) else 9)) b 2 (if (((facF mo) * (m b 2)) + 1) < 9 then (((facF mo) * (m b 2)) + 1) else 9))) 3 (by rfl) ?_
  refine ev_min rfl rfl (fa_in (facF_bd mo).1 (facF_bd mo).2 (hb0 3 (by omega)).1 (hb0 3 (by omega)).2) rfl ?_
  refine ev_iast (k := 3) rfl hb rfl (by omega) ?_
  refine ev_go (pc' := 63) (ls' := [some (vR (some 3)), some (vI w), some (vR (some b)), some (vI mo), some (vI (facF mo)), some (vI 4)]) (st' := [vI 5, vI 4]) (h1 := HS t (up (up (up (up m b 0 (if (((facF mo) * (m b 0)) + 1) < 9 then (((facF mo) * (m b 0)) + 1) else 9)) b 1 (if (((facF mo) * (m b 1)) + 1) < 9 then (((facF mo) * (m b 1)) + 1) else 9)) b 2 (if (((facF mo) * (m b 2)) + 1) < 9 then (((facF mo) * (m b 2)) + 1) else 9)) b 3 (if (((facF mo) * (m b 3)) + 1) < 9 then (((facF mo) * (m b 3)) + 1) else 9))) 4 (by rfl) ?_
  refine ev_ic3 rfl rfl rfl (fun c63 => absurd c63 (by decide)) (fun c63 => ?_)
  refine ev_go (pc' := 76) (ls' := [some (vR (some 3)), some (vI w), some (vR (some b)), some (vI mo), some (vI (facF mo)), some (vI 4)]) (st' := [vI 4, vR (some b), vI (facF mo), vI 9, vI 4, vR (some b)]) (h1 := HS t (up (up (up (up m b 0 (if (((facF mo) * (m b 0)) + 1) < 9 then (((facF mo) * (m b 0)) + 1) else 9)) b 1 (if (((facF mo) * (m b 1)) + 1) < 9 then (((facF mo) * (m b 1)) + 1) else 9)) b 2 (if (((facF mo) * (m b 2)) + 1) < 9 then (((facF mo) * (m b 2)) + 1) else 9)) b 3 (if (((facF mo) * (m b 3)) + 1) < 9 then (((facF mo) * (m b 3)) + 1) else 9))) 6 (by rfl) ?_
  refine ev_ialdv (k := 4) (v := (m b 4)) rfl hb rfl (by omega) ((up_ne2 _ _ (by decide)).trans ((up_ne2 _ _ (by decide)).trans ((up_ne2 _ _ (by decide)).trans (up_ne2 _ _ (by decide))))) ?_
  refine ev_go (pc' := 80) (ls' := [some (vR (some 3)), some (vI w), some (vR (some b)), some (vI mo), some (vI (facF mo)), some (vI 4)]) (st' := [vI (((facF mo) * (m b 4)) + 1), vI 9, vI 4, vR (some b)]) (h1 := HS t (up (up (up (up m b 0 (if (((facF mo) * (m b 0)) + 1) < 9 then (((facF mo) * (m b 0)) + 1) else 9)) b 1 (if (((facF mo) * (m b 1)) + 1) < 9 then (((facF mo) * (m b 1)) + 1) else 9)) b 2 (if (((facF mo) * (m b 2)) + 1) < 9 then (((facF mo) * (m b 2)) + 1) else 9)) b 3 (if (((facF mo) * (m b 3)) + 1) < 9 then (((facF mo) * (m b 3)) + 1) else 9))) 3 (by rfl) ?_
  refine ev_min rfl rfl (fa_in (facF_bd mo).1 (facF_bd mo).2 (hb0 4 (by omega)).1 (hb0 4 (by omega)).2) rfl ?_
  refine ev_iast (k := 4) rfl hb rfl (by omega) ?_
  refine ev_go (pc' := 63) (ls' := [some (vR (some 3)), some (vI w), some (vR (some b)), some (vI mo), some (vI (facF mo)), some (vI 5)]) (st' := [vI 5, vI 5]) (h1 := HS t (up (up (up (up (up m b 0 (if (((facF mo) * (m b 0)) + 1) < 9 then (((facF mo) * (m b 0)) + 1) else 9)) b 1 (if (((facF mo) * (m b 1)) + 1) < 9 then (((facF mo) * (m b 1)) + 1) else 9)) b 2 (if (((facF mo) * (m b 2)) + 1) < 9 then (((facF mo) * (m b 2)) + 1) else 9)) b 3 (if (((facF mo) * (m b 3)) + 1) < 9 then (((facF mo) * (m b 3)) + 1) else 9)) b 4 (if (((facF mo) * (m b 4)) + 1) < 9 then (((facF mo) * (m b 4)) + 1) else 9))) 4 (by rfl) ?_
  refine ev_ic3 rfl rfl rfl (fun c63 => ?_) (fun c63 => absurd c63 (by decide))
  exact ev_retE rfl rfl rfl (by unfold u5 wF; rfl)
set_option maxRecDepth 10000 in
theorem l_weigh1 {L : Nat} {xs : Nat → Int32} {t : Bool × Nat × Nat} {d b n : Nat} {w : Int} {C : List Tx} (hb : kd b = (1, 5)) (hb75 : 75 ≤ b) (hl : C.length = n) (hW : ∀ i, i < C.length → WT (gc C i).1) (hw0 : 0 ≤ w) (hw1 : w < 2147483648) : ∀ (c i : Nat) (mo : Int) (f : Nat → Int) (m : mMM), i + c = n → CR m C → 0 ≤ mo → mo ≤ 4 → RW m b f → ∃ m', RW m' b ((C.drop i).foldl (cntC w) (mo, f)).2 ∧ FRo m m' b ∧ 0 ≤ ((C.drop i).foldl (cntC w) (mo, f)).1 ∧ ((C.drop i).foldl (cntC w) (mo, f)).1 ≤ 4 ∧ ∀ o h', Ev (PP L xs) (d + 2) 16 51 [some (vR (some 3)), some (vI w), some (vR (some b)), some (vI ((C.drop i).foldl (cntC w) (mo, f)).1), some (vI (n : Int)), none] [] (HS t m') o h' → Ev (PP L xs) (d + 2) 16 9 [some (vR (some 3)), some (vI w), some (vR (some b)), some (vI mo), some (vI (i : Int)), none] [] (HS t m) o h' := by
  intro c
  induction c with
  | zero =>
    intro i mo f m hi hc h0 h4 hr
    have e : C.drop i = [] := List.drop_eq_nil_of_le (by omega)
    rw [e]
    refine ⟨m, hr, fun _ _ _ => rfl, h0, h4, fun o h' hE => ?_⟩
    have ei : i = n := by omega
    subst ei
    refine ev_go (pc' := 12) (ls' := [some (vR (some 3)), some (vI w), some (vR (some b)), some (vI mo), some (vI ((i : Nat) : Int)), none]) (st' := [vR (some 3), vI ((i : Nat) : Int)]) (h1 := HS t m) 2 (by rfl) ?_
    refine ev_getIv (v := ((i : Nat) : Int)) rfl rfl ((by rw [hc.1, hl])) ?_
    refine ev_ic3 rfl (inI_of (by have := hc.2.1; omega) (by have := hc.2.1; omega)) (inI_of (by have := hc.2.1; omega) (by have := hc.2.1; omega)) (fun c15 => ?_) (fun c15 => absurd c15 (by omega))
    exact hE
  | succ c IH =>
    intro i mo f m hi hc h0 h4 hr
    have hl6 := hc.2.1
    have hv := hc.2.2 i (by omega)
    rw [drop_gc (by omega : i < C.length), List.foldl_cons]
    by_cases k1 : (gc C i).2 = true
    · have ec : cntC w (mo, f) (gc C i) = (gc C i).1.foldl (cnt w) (mo, f) := by unfold cntC; rw [if_pos k1]
      rw [ec]
      obtain ⟨m1, hE1, hR1, hF1, h01, h41⟩ := c_count (L := L) (xs := xs) (t := t) (d := d) (TX_tx (by omega : i < 21)) hb (show b ≠ tx i by have e : tx i = 12 + 3 * i := rfl; omega) (show b ≠ tx i + 1 by have e : tx i = 12 + 3 * i := rfl; omega) (show b ≠ tx i + 2 by have e : tx i = 12 + 3 * i := rfl; omega) (hW i (by omega)) hw0 hw1 hv.1 h0 h4 hr
      have hF75 := hF1
      obtain ⟨m2, hR2, hF2, h02, h42, hK⟩ := IH (i + 1) _ _ m1 (by omega) (CR_fr hF1 hb75 hc) h01 h41 hR1
      refine ⟨m2, hR2, FRo_trans hF1 hF2, h02, h42, fun o h' hE => ?_⟩
      have k3 : m (tx i) 3 = 1 := by rw [hv.2, if_pos k1]
      refine ev_go (pc' := 12) (ls' := [some (vR (some 3)), some (vI w), some (vR (some b)), some (vI mo), some (vI ((i : Nat) : Int)), none]) (st' := [vR (some 3), vI ((i : Nat) : Int)]) (h1 := HS t m) 2 (by rfl) ?_
      refine ev_getIv (v := ((n : Nat) : Int)) rfl rfl ((by rw [hc.1, hl])) ?_
      refine ev_ic3 rfl (inI_of (by have := hc.2.1; omega) (by have := hc.2.1; omega)) (inI_of (by have := hc.2.1; omega) (by have := hc.2.1; omega)) (fun c15 => absurd c15 (by omega)) (fun c15 => ?_)
      refine ev_go (pc' := 19) (ls' := [some (vR (some 3)), some (vI w), some (vR (some b)), some (vI mo), some (vI ((i : Nat) : Int)), none]) (st' := [vR (some 3)]) (h1 := HS t m) 1 (by rfl) ?_
      refine ev_getR rfl rfl (rfl : rf 3 0 = some 4) ?_
      refine ev_go (pc' := 24) (ls' := [some (vR (some 3)), some (vI w), some (vR (some b)), some (vI mo), some (vI ((i : Nat) : Int)), none]) (st' := [vI ((i : Nat) : Int), vR (some 4)]) (h1 := HS t m) 1 (by rfl) ?_
      refine ev_aald (k := i) rfl rfl rfl (by omega) ((rf_tx i (by omega)).1 : rf 4 i = some (tx i)) ?_
      refine ev_getIv (v := 1) rfl (kd_tx i (by omega)).1 (k3) ?_
      refine ev_if0 rfl rfl (fun c28 => absurd c28 (by decide)) (fun c28 => ?_)
      refine ev_go (pc' := 32) (ls' := [some (vR (some 3)), some (vI w), some (vR (some b)), some (vI mo), some (vI ((i : Nat) : Int)), none]) (st' := [vR (some 3)]) (h1 := HS t m) 1 (by rfl) ?_
      refine ev_getR rfl rfl (rfl : rf 3 0 = some 4) ?_
      refine ev_go (pc' := 37) (ls' := [some (vR (some 3)), some (vI w), some (vR (some b)), some (vI mo), some (vI ((i : Nat) : Int)), none]) (st' := [vI ((i : Nat) : Int), vR (some 4)]) (h1 := HS t m) 1 (by rfl) ?_
      refine ev_aald (k := i) rfl rfl rfl (by omega) ((rf_tx i (by omega)).1 : rf 4 i = some (tx i)) ?_
      refine ev_go (pc' := 41) (ls' := [some (vR (some 3)), some (vI w), some (vR (some b)), some (vI mo), some (vI ((i : Nat) : Int)), none]) (st' := [vR (some b), vI mo, vI w, vR (some (tx i))]) (h1 := HS t m) 3 (by rfl) ?_
      refine ev_call rfl rfl (Nat.le_of_ble_eq_true rfl) hE1 ⟨Nat.le_refl _, Nat.le_refl _⟩ ?_
      show Ev (PP L xs) _ 16 44 [some (vR (some 3)), some (vI w), some (vR (some b)), some (vI mo), some (vI ((i : Nat) : Int)), none] [vI (((gc C i).1.foldl (cnt w) (mo, f)).1)] (HS t m1) _ _
      refine ev_go (pc' := 9) (ls' := [some (vR (some 3)), some (vI w), some (vR (some b)), some (vI (((gc C i).1.foldl (cnt w) (mo, f)).1)), some (vI ((i + 1 : Nat) : Int)), none]) (st' := []) (h1 := HS t m1) 3 (by rfl) ?_
      exact hK o h' hE
    · have ec : cntC w (mo, f) (gc C i) = (mo, f) := by unfold cntC; rw [if_neg k1]
      rw [ec]
      obtain ⟨m2, hR2, hF2, h02, h42, hK⟩ := IH (i + 1) _ _ m (by omega) hc h0 h4 hr
      refine ⟨m2, hR2, hF2, h02, h42, fun o h' hE => ?_⟩
      have k3 : m (tx i) 3 = 0 := by rw [hv.2, if_neg k1]
      refine ev_go (pc' := 12) (ls' := [some (vR (some 3)), some (vI w), some (vR (some b)), some (vI mo), some (vI ((i : Nat) : Int)), none]) (st' := [vR (some 3), vI ((i : Nat) : Int)]) (h1 := HS t m) 2 (by rfl) ?_
      refine ev_getIv (v := ((n : Nat) : Int)) rfl rfl ((by rw [hc.1, hl])) ?_
      refine ev_ic3 rfl (inI_of (by have := hc.2.1; omega) (by have := hc.2.1; omega)) (inI_of (by have := hc.2.1; omega) (by have := hc.2.1; omega)) (fun c15 => absurd c15 (by omega)) (fun c15 => ?_)
      refine ev_go (pc' := 19) (ls' := [some (vR (some 3)), some (vI w), some (vR (some b)), some (vI mo), some (vI ((i : Nat) : Int)), none]) (st' := [vR (some 3)]) (h1 := HS t m) 1 (by rfl) ?_
      refine ev_getR rfl rfl (rfl : rf 3 0 = some 4) ?_
      refine ev_go (pc' := 24) (ls' := [some (vR (some 3)), some (vI w), some (vR (some b)), some (vI mo), some (vI ((i : Nat) : Int)), none]) (st' := [vI ((i : Nat) : Int), vR (some 4)]) (h1 := HS t m) 1 (by rfl) ?_
      refine ev_aald (k := i) rfl rfl rfl (by omega) ((rf_tx i (by omega)).1 : rf 4 i = some (tx i)) ?_
      refine ev_getIv (v := 0) rfl (kd_tx i (by omega)).1 (k3) ?_
      refine ev_if0 rfl rfl (fun c28 => ?_) (fun c28 => absurd c28 (by decide))
      refine ev_go (pc' := 9) (ls' := [some (vR (some 3)), some (vI w), some (vR (some b)), some (vI mo), some (vI ((i + 1 : Nat) : Int)), none]) (st' := []) (h1 := HS t m) 2 (by rfl) ?_
      exact hK o h' hE
set_option maxRecDepth 10000 in
theorem c_weigh {L : Nat} {xs : Nat → Int32} {t : Bool × Nat × Nat} {d b : Nat} {w : Int} {m : mMM} {C : List Tx} (hb : kd b = (1, 5)) (hb75 : 75 ≤ b) (hW : ∀ i, i < C.length → WT (gc C i).1) (hw0 : 0 ≤ w) (hw1 : w < 2147483648) (hc : CR m C) (hB : ∀ k, k < 5 → 0 ≤ (C.foldl (cntC w) (0, fun _ => 0)).2 k ∧ (C.foldl (cntC w) (0, fun _ => 0)).2 k ≤ 1000) : ∃ m', Ev (PP L xs) (d + 2) 16 0 (entL 6 [vR (some 3), vI w, vR (some b)]) [] (HS t m) (.inl none) (HS t m') ∧ RW m' b (fun k => wF (facF (C.foldl (cntC w) (0, fun _ => 0)).1) ((C.foldl (cntC w) (0, fun _ => 0)).2 k)) ∧ FRo m m' b := by
  obtain ⟨m1, hR, hF, h0, h4, hK⟩ := l_weigh1 (L := L) (xs := xs) (t := t) (d := d) hb hb75 rfl hW hw0 hw1 C.length 0 0 (fun _ => 0) (z5 m b) (by omega) (CR_fr (fun c k hc => z5_ne m b hc) hb75 hc) (by omega) (by omega) (fun k hk => z5_at m b k hk)
  refine ⟨u5 m1 b (fun k => wF (facF (C.foldl (cntC w) (0, fun _ => 0)).1) (m1 b k)), ?_, fun k hk => (u5_at m1 b _ k hk).trans (congrArg (wF (facF (C.foldl (cntC w) (0, fun _ => 0)).1)) (hR k hk)), fun c k hc => (u5_ne m1 b _ hc).trans ((hF c k hc).trans (z5_ne m b hc))⟩
  refine ev_go (pc' := 3) (ls' := [some (vR (some 3)), some (vI w), some (vR (some b)), some (vI 0), none, none]) (st' := [vR (some b)]) (h1 := HS t m) 3 (by rfl) ?_
  refine ev_call rfl rfl (Nat.le_of_ble_eq_true rfl) (c_clearRow hb) ⟨Nat.le_refl _, Nat.le_refl _⟩ ?_
  show Ev (PP L xs) _ 16 6 [some (vR (some 3)), some (vI w), some (vR (some b)), some (vI 0), none, none] [] (HS t (z5 m b)) _ _
  refine ev_go (pc' := 9) (ls' := [some (vR (some 3)), some (vI w), some (vR (some b)), some (vI 0), some (vI 0), none]) (st' := []) (h1 := HS t (z5 m b)) 2 (by rfl) ?_
  exact hK _ _ (l_weigh2 hb h0 h4 (fun k hk => by rw [hR k hk]; exact hB k hk))
