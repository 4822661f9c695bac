/-! ===== the trellis: rankings place by place ===== -/
def upF (R : Nat → List Pr) (A : Nat → Int) (g : Int) : Nat → Nat → List Pr → List Pr
  | 0, _, l => l
  | c + 1, i, l => upF R A g c (i + 1) (((R i).map (extF (A i) g)).foldl oL l)
def LBD (m : mMM) : Prop := (∀ p, p < 5 → ∀ k, k < 5 → 0 ≤ m (80 + p) k ∧ m (80 + p) k ≤ 1000) ∧ ∀ r, r < 6 → ∀ k, k < 5 → 0 ≤ m (86 + r) k ∧ m (86 + r) k ≤ 1000
theorem LBD_fr {m m' : mMM} {a : Nat} (h : FR m m' a) (ha : 92 ≤ a) (hb : LBD m) : LBD m' := ⟨fun p hp k hk => by rw [h (80 + p) k (by omega) (by omega) (by omega)]; exact hb.1 p hp k hk, fun r hr k hk => by rw [h (86 + r) k (by omega) (by omega) (by omega)]; exact hb.2 r hr k hk⟩
set_option maxRecDepth 10000 in
theorem c_rankingAt {L : Nat} {xs : Nat → Int32} {d : Nat} {t : Bool × Nat × Nat} {m : mMM} {p g : Nat} (hp : p < 5) (hg : g < 5) : Ev (PP L xs) d 51 0 (entL 3 [vR (some 92), vI ((p : Nat) : Int), vI ((g : Nat) : Int)]) [] (HS t m) (.inl (some (vR (some (rk (5 * p + g)))))) (HS t m) := by
  refine ev_go (pc' := 1) (ls' := [some (vR (some 92)), some (vI ((p : Nat) : Int)), some (vI ((g : Nat) : Int))]) (st' := [vR (some 92)]) (h1 := HS t m) 1 (by rfl) ?_
  refine ev_getR rfl rfl (rfl : rf 92 1 = some 93) ?_
  refine ev_go (pc' := 9) (ls' := [some (vR (some 92)), some (vI ((p : Nat) : Int)), some (vI ((g : Nat) : Int))]) (st' := [vI ((((p : Nat) : Int) * 5) + ((g : Nat) : Int)), vR (some 93)]) (h1 := HS t m) 5 (by rfl) ?_
  refine ev_aald (k := (5 * p + g)) rfl rfl (by omega) (by omega) ((rf_rk _ (by omega)) : rf 93 (5 * p + g) = some (rk (5 * p + g))) ?_
  exact ev_retE rfl rfl (by first | rfl | (simp [*]; done) | (split <;> first | rfl | (exfalso; omega))) (by first | rfl | (simp [*]; done) | (split <;> first | rfl | (exfalso; omega)))
set_option maxRecDepth 10000 in
theorem l_upto {L : Nat} {xs : Nat → Int32} {t : Bool × Nat × Nat} {d p g : Nat} {R : Nat → List Pr} {A : Nat → Int} (hp : p < 5) (hp0 : 0 < p) (hg : g < 5) (hX : ∀ f, f < 5 → ∀ x, x ∈ R f → inJ (x.1 * A f) = true ∧ 0 ≤ x.2 ∧ x.2 < 268435456) : ∀ (c i : Nat) (l : List Pr) (m : mMM), i + c = 5 → RK m (rk (5 * p + g)) l → Srt l → BD l → LBD m → (∀ f, f < 5 → A f = m (86 + (f + 1)) g * m (80 + p) g) → (∀ f, f < 5 → RK m (rk (5 * (p - 1) + f)) (R f)) → ∃ m', Ev (PP L xs) (d + 3) 50 34 [some (vR (some 92)), some (vI (p : Int)), some (vI (g : Int)), some (vR (some (rk (5 * p + g)))), some (vI (i : Int))] [] (HS t m) (.inl none) (HS t m') ∧ RK m' (rk (5 * p + g)) (upF R A g c i l) ∧ Srt (upF R A g c i l) ∧ BD (upF R A g c i l) ∧ FR m m' (rk (5 * p + g)) := by
  intro c
  induction c with
  | zero =>
    intro i l m hi hr hs hbd hlb hA hR
    refine ⟨m, ?_, hr, hs, hbd, fun _ _ _ _ _ => rfl⟩
    refine ev_go (pc' := 37) (ls' := [some (vR (some 92)), some (vI ((p : Nat) : Int)), some (vI ((g : Nat) : Int)), some (vR (some (rk (5 * p + g)))), some (vI ((i : Nat) : Int))]) (st' := [vI 5, vI ((i : Nat) : Int)]) (h1 := HS t m) 2 (by rfl) ?_
    refine ev_ic3 rfl (inI_of (by omega) (by omega)) rfl (fun c37 => ?_) (fun c37 => absurd c37 (by omega))
    exact ev_retE rfl rfl (by first | rfl | (simp [*]; done) | (split <;> first | rfl | (exfalso; omega))) (by first | rfl | (simp [*]; done) | (split <;> first | rfl | (exfalso; omega)))
  | succ c IH =>
    intro i l m hi hr hs hbd hlb hA hR
    have hj := RKA_rk (i := 5 * p + g) (by omega)
    have hi5 : i < 5 := by omega
    have hai := hA i hi5
    have eR : ∀ x, rk x = 106 + 3 * x := fun _ => rfl
    obtain ⟨m1, hE1, hR1, hS1, hB1, hF1⟩ := c_offerExt (L := L) (xs := xs) (t := t) (d := d) (arc := (m (86 + (i + 1)) g * m (80 + p) g)) (g := (g : Int)) hj (RKA_rk (i := 5 * (p - 1) + i) (by omega)) (by rw [eR, eR]; omega) (fun x hx => by rw [← hai]; exact hX i hi5 x hx) (by omega) (by omega) hr hs hbd (hR i hi5)
    rw [← hai] at hR1 hS1 hB1
    obtain ⟨m2, hE2, hR2, hS2, hB2, hF2⟩ := IH (i + 1) _ m1 (by omega) hR1 hS1 hB1 (LBD_fr hF1 (by rw [eR]; omega) hlb) (fun f hf => by rw [hF1 (86 + (f + 1)) g (by rw [eR]; omega) (by rw [eR]; omega) (by rw [eR]; omega), hF1 (80 + p) g (by rw [eR]; omega) (by rw [eR]; omega) (by rw [eR]; omega)]; exact hA f hf) (fun f hf => RK_fr hF1 (by rw [eR, eR]; omega) (hR f hf))
    refine ⟨m2, ?_, hR2, hS2, hB2, FR_trans hF1 hF2⟩
    refine ev_go (pc' := 37) (ls' := [some (vR (some 92)), some (vI ((p : Nat) : Int)), some (vI ((g : Nat) : Int)), some (vR (some (rk (5 * p + g)))), some (vI ((i : Nat) : Int))]) (st' := [vI 5, vI ((i : Nat) : Int)]) (h1 := HS t m) 2 (by rfl) ?_
    refine ev_ic3 rfl (inI_of (by omega) (by omega)) rfl (fun c37 => absurd c37 (by omega)) (fun c37 => ?_)
    refine ev_go (pc' := 47) (ls' := [some (vR (some 92)), some (vI ((p : Nat) : Int)), some (vI ((g : Nat) : Int)), some (vR (some (rk (5 * p + g)))), some (vI ((i : Nat) : Int))]) (st' := [vI ((i : Nat) : Int), vI (((p : Nat) : Int) - 1), vR (some 92), vR (some (rk (5 * p + g)))]) (h1 := HS t m) 6 (by rfl) ?_
    rw [show (((p : Nat) : Int) - 1) = ((p - 1 : Nat) : Int) by omega]
    refine ev_call rfl rfl (Nat.le_of_ble_eq_true rfl) (c_rankingAt (p := p - 1) (g := i) (by omega) hi5) ⟨Nat.le_refl _, Nat.le_refl _⟩ ?_
    show Ev (PP L xs) _ 50 50 [some (vR (some 92)), some (vI ((p : Nat) : Int)), some (vI ((g : Nat) : Int)), some (vR (some (rk (5 * p + g)))), some (vI ((i : Nat) : Int))] [vR (some (rk (5 * (p - 1) + i))), vR (some (rk (5 * p + g)))] (HS t m) _ _
    refine ev_go (pc' := 51) (ls' := [some (vR (some 92)), some (vI ((p : Nat) : Int)), some (vI ((g : Nat) : Int)), some (vR (some (rk (5 * p + g)))), some (vI ((i : Nat) : Int))]) (st' := [vR (some 92), vR (some (rk (5 * (p - 1) + i))), vR (some (rk (5 * p + g)))]) (h1 := HS t m) 1 (by rfl) ?_
    refine ev_getR rfl rfl (rfl : rf 92 0 = some 78) ?_
    refine ev_go (pc' := 58) (ls' := [some (vR (some 92)), some (vI ((p : Nat) : Int)), some (vI ((g : Nat) : Int)), some (vR (some (rk (5 * p + g)))), some (vI ((i : Nat) : Int))]) (st' := [vI ((g : Nat) : Int), vI ((i : Nat) : Int), vI ((p : Nat) : Int), vR (some 78), vR (some (rk (5 * (p - 1) + i))), vR (some (rk (5 * p + g)))]) (h1 := HS t m) 3 (by rfl) ?_
    refine ev_call rfl rfl (Nat.le_of_ble_eq_true rfl) (c_arcW hp hi5 hg (hlb.2 (i + 1) (by omega) g hg) (hlb.1 p hp g hg)) ⟨Nat.le_refl _, Nat.le_refl _⟩ ?_
    show Ev (PP L xs) _ 50 61 [some (vR (some 92)), some (vI ((p : Nat) : Int)), some (vI ((g : Nat) : Int)), some (vR (some (rk (5 * p + g)))), some (vI ((i : Nat) : Int))] [vJ (m (86 + (i + 1)) g * m (80 + p) g), vR (some (rk (5 * (p - 1) + i))), vR (some (rk (5 * p + g)))] (HS t m) _ _
    refine ev_go (pc' := 62) (ls' := [some (vR (some 92)), some (vI ((p : Nat) : Int)), some (vI ((g : Nat) : Int)), some (vR (some (rk (5 * p + g)))), some (vI ((i : Nat) : Int))]) (st' := [vI ((g : Nat) : Int), vJ (m (86 + (i + 1)) g * m (80 + p) g), vR (some (rk (5 * (p - 1) + i))), vR (some (rk (5 * p + g)))]) (h1 := HS t m) 1 (by rfl) ?_
    refine ev_call rfl (hs_callV (i := 32) (c := 3) (n := 3) (nx := 65) (a := (rk (5 * p + g))) (as := [vR (some (rk (5 * (p - 1) + i))), vJ (m (86 + (i + 1)) g * m (80 + p) g), vI ((g : Nat) : Int)]) (ls := [some (vR (some 92)), some (vI ((p : Nat) : Int)), some (vI ((g : Nat) : Int)), some (vR (some (rk (5 * p + g)))), some (vI ((i : Nat) : Int))]) (st := [vI ((g : Nat) : Int), vJ (m (86 + (i + 1)) g * m (80 + p) g), vR (some (rk (5 * (p - 1) + i))), vR (some (rk (5 * p + g)))]) rfl hj.1 rfl rfl) (Nat.le_of_ble_eq_true rfl) hE1 ⟨Nat.le_refl _, Nat.le_refl _⟩ ?_
    show Ev (PP L xs) _ 50 65 [some (vR (some 92)), some (vI ((p : Nat) : Int)), some (vI ((g : Nat) : Int)), some (vR (some (rk (5 * p + g)))), some (vI ((i : Nat) : Int))] [] (HS t m1) _ _
    refine ev_go (pc' := 34) (ls' := [some (vR (some 92)), some (vI ((p : Nat) : Int)), some (vI ((g : Nat) : Int)), some (vR (some (rk (5 * p + g)))), some (vI ((i + 1 : Nat) : Int))]) (st' := []) (h1 := HS t m1) 2 (by rfl) ?_
    exact hE2
set_option maxRecDepth 10000 in
theorem c_upto {L : Nat} {xs : Nat → Int32} {t : Bool × Nat × Nat} {d p g : Nat} {m : mMM} {R : Nat → List Pr} {A : Nat → Int} (hp : p < 5) (hp0 : 0 < p) (hg : g < 5) (hX : ∀ f, f < 5 → ∀ x, x ∈ R f → inJ (x.1 * A f) = true ∧ 0 ≤ x.2 ∧ x.2 < 268435456) (hlb : LBD m) (hA : ∀ f, f < 5 → A f = m (86 + (f + 1)) g * m (80 + p) g) (hR : ∀ f, f < 5 → RK m (rk (5 * (p - 1) + f)) (R f)) : ∃ m', Ev (PP L xs) (d + 3) 50 0 (entL 5 [vR (some 92), vI (p : Int), vI (g : Int)]) [] (HS t m) (.inl none) (HS t m') ∧ RK m' (rk (5 * p + g)) (upF R A g 5 0 []) ∧ Srt (upF R A g 5 0 []) ∧ BD (upF R A g 5 0 []) ∧ FR m m' (rk (5 * p + g)) := by
  have hj := RKA_rk (i := 5 * p + g) (by omega)
  have eR : ∀ x, rk x = 106 + 3 * x := fun _ => rfl
  have hF : FR m (up m (rk (5 * p + g)) 2 0) (rk (5 * p + g)) := fun b k h1 _ _ => up_ne1 _ _ h1
  have hr0 : RK (up m (rk (5 * p + g)) 2 0) (rk (5 * p + g)) [] := ⟨up_eq _ _ _ _, Nat.zero_le _, fun k hk => absurd hk (Nat.not_lt_zero k)⟩
  obtain ⟨m2, hE2, hR2, hS2, hB2, hF2⟩ := l_upto (L := L) (xs := xs) (t := t) (d := d) hp hp0 hg hX 5 0 [] (up m (rk (5 * p + g)) 2 0) rfl hr0 List.Pairwise.nil (fun x hx => absurd hx (List.not_mem_nil)) (LBD_fr hF (by rw [eR]; omega) hlb) (fun f hf => by rw [hF (86 + (f + 1)) g (by rw [eR]; omega) (by rw [eR]; omega) (by rw [eR]; omega), hF (80 + p) g (by rw [eR]; omega) (by rw [eR]; omega) (by rw [eR]; omega)]; exact hA f hf) (fun f hf => RK_fr hF (by rw [eR, eR]; omega) (hR f hf))
  refine ⟨m2, ?_, hR2, hS2, hB2, FR_trans hF hF2⟩
  refine ev_go (pc' := 3) (ls' := [some (vR (some 92)), some (vI ((p : Nat) : Int)), some (vI ((g : Nat) : Int)), none, none]) (st' := [vI ((g : Nat) : Int), vI ((p : Nat) : Int), vR (some 92)]) (h1 := HS t m) 3 (by rfl) ?_
  refine ev_call rfl rfl (Nat.le_of_ble_eq_true rfl) (c_rankingAt hp hg) ⟨Nat.le_refl _, Nat.le_refl _⟩ ?_
  show Ev (PP L xs) _ 50 6 [some (vR (some 92)), some (vI ((p : Nat) : Int)), some (vI ((g : Nat) : Int)), none, none] [vR (some (rk (5 * p + g)))] (HS t m) _ _
  refine ev_go (pc' := 8) (ls' := [some (vR (some 92)), some (vI ((p : Nat) : Int)), some (vI ((g : Nat) : Int)), some (vR (some (rk (5 * p + g)))), none]) (st' := [vR (some (rk (5 * p + g)))]) (h1 := HS t m) 2 (by rfl) ?_
  refine ev_call rfl (hs_callV (i := 28) (c := 3) (n := 0) (nx := 11) (a := (rk (5 * p + g))) (as := []) (ls := [some (vR (some 92)), some (vI ((p : Nat) : Int)), some (vI ((g : Nat) : Int)), some (vR (some (rk (5 * p + g)))), none]) (st := [vR (some (rk (5 * p + g)))]) rfl hj.1 rfl rfl) (Nat.le_of_ble_eq_true rfl) (c_rk_removeAll hj) ⟨Nat.le_refl _, Nat.le_refl _⟩ ?_
  show Ev (PP L xs) _ 50 11 [some (vR (some 92)), some (vI ((p : Nat) : Int)), some (vI ((g : Nat) : Int)), some (vR (some (rk (5 * p + g)))), none] [] (HS t (up m (rk (5 * p + g)) 2 0)) _ _
  refine ev_go (pc' := 12) (ls' := [some (vR (some 92)), some (vI ((p : Nat) : Int)), some (vI ((g : Nat) : Int)), some (vR (some (rk (5 * p + g)))), none]) (st' := [vI ((p : Nat) : Int)]) (h1 := HS t (up m (rk (5 * p + g)) 2 0)) 1 (by rfl) ?_
  refine ev_if1 rfl (inI_of (by omega) (by omega)) (fun c12 => ?_) (fun c12 => absurd c12 (by omega))
  refine ev_go (pc' := 34) (ls' := [some (vR (some 92)), some (vI ((p : Nat) : Int)), some (vI ((g : Nat) : Int)), some (vR (some (rk (5 * p + g)))), some (vI 0)]) (st' := []) (h1 := HS t (up m (rk (5 * p + g)) 2 0)) 2 (by rfl) ?_
  exact hE2
set_option maxRecDepth 10000 in
theorem c_upto0 {L : Nat} {xs : Nat → Int32} {t : Bool × Nat × Nat} {d g : Nat} {m : mMM} (hg : g < 5) (hlb : LBD m) (hJ : inJ (m 86 g * m 80 g) = true) : ∃ m', Ev (PP L xs) (d + 3) 50 0 (entL 5 [vR (some 92), vI 0, vI (g : Int)]) [] (HS t m) (.inl none) (HS t m') ∧ RK m' (rk (5 * 0 + g)) (oL [] (m 86 g * m 80 g, (g : Int))) ∧ Srt (oL [] (m 86 g * m 80 g, (g : Int))) ∧ BD (oL [] (m 86 g * m 80 g, (g : Int))) ∧ FR m m' (rk (5 * 0 + g)) := by
  have hj := RKA_rk (i := 5 * 0 + g) (by omega)
  have eR : ∀ x, rk x = 106 + 3 * x := fun _ => rfl
  have hF : FR m (up m (rk (5 * 0 + g)) 2 0) (rk (5 * 0 + g)) := fun b k h1 _ _ => up_ne1 _ _ h1
  have hr0 : RK (up m (rk (5 * 0 + g)) 2 0) (rk (5 * 0 + g)) [] := ⟨up_eq _ _ _ _, Nat.zero_le _, fun k hk => absurd hk (Nat.not_lt_zero k)⟩
  have e1 : (up m (rk (5 * 0 + g)) 2 0) 86 g = m 86 g := hF 86 g (by rw [eR]; omega) (by rw [eR]; omega) (by rw [eR]; omega)
  have e2 : (up m (rk (5 * 0 + g)) 2 0) 80 g = m 80 g := hF 80 g (by rw [eR]; omega) (by rw [eR]; omega) (by rw [eR]; omega)
  have b1 := hlb.2 0 (by omega) g hg
  have b2 := hlb.1 0 (by omega) g hg
  have harc := c_arcN (L := L) (xs := xs) (d := d + 2) (t := t) (m := (up m (rk (5 * 0 + g)) 2 0)) (p := 0) (h := g) (by omega) hg (by rw [e1]; exact b1) (by rw [show 80 + 0 = 80 from rfl, e2]; exact b2)
  rw [show 80 + 0 = 80 from rfl, e1, e2] at harc
  have hI : inI (g : Int) = true := inI_of (by omega) (by omega)
  obtain ⟨m1, hE1, hR1, hF1⟩ := c_off (L := L) (xs := xs) (t := t) (d := d + 1) (w := m 86 g * m 80 g) (p := (g : Int)) hj hr0 List.Pairwise.nil (fun x hx => absurd hx (List.not_mem_nil)) hJ hI
  refine ⟨m1, ?_, hR1, Srt_oL List.Pairwise.nil _, BD_oL (fun x hx => absurd hx (List.not_mem_nil)) hJ hI, FR_trans hF hF1⟩
  refine ev_go (pc' := 3) (ls' := [some (vR (some 92)), some (vI 0), some (vI ((g : Nat) : Int)), none, none]) (st' := [vI ((g : Nat) : Int), vI 0, vR (some 92)]) (h1 := HS t m) 3 (by rfl) ?_
  refine ev_call rfl rfl (Nat.le_of_ble_eq_true rfl) (c_rankingAt (p := 0) (by omega) hg) ⟨Nat.le_refl _, Nat.le_refl _⟩ ?_
  show Ev (PP L xs) _ 50 6 [some (vR (some 92)), some (vI 0), some (vI ((g : Nat) : Int)), none, none] [vR (some (rk (5 * 0 + g)))] (HS t m) _ _
  refine ev_go (pc' := 8) (ls' := [some (vR (some 92)), some (vI 0), some (vI ((g : Nat) : Int)), some (vR (some (rk (5 * 0 + g)))), none]) (st' := [vR (some (rk (5 * 0 + g)))]) (h1 := HS t m) 2 (by rfl) ?_
  refine ev_call rfl (hs_callV (i := 28) (c := 3) (n := 0) (nx := 11) (a := (rk (5 * 0 + g))) (as := []) (ls := [some (vR (some 92)), some (vI 0), some (vI ((g : Nat) : Int)), some (vR (some (rk (5 * 0 + g)))), none]) (st := [vR (some (rk (5 * 0 + g)))]) rfl hj.1 rfl rfl) (Nat.le_of_ble_eq_true rfl) (c_rk_removeAll hj) ⟨Nat.le_refl _, Nat.le_refl _⟩ ?_
  show Ev (PP L xs) _ 50 11 [some (vR (some 92)), some (vI 0), some (vI ((g : Nat) : Int)), some (vR (some (rk (5 * 0 + g)))), none] [] (HS t (up m (rk (5 * 0 + g)) 2 0)) _ _
  refine ev_go (pc' := 12) (ls' := [some (vR (some 92)), some (vI 0), some (vI ((g : Nat) : Int)), some (vR (some (rk (5 * 0 + g)))), none]) (st' := [vI 0]) (h1 := HS t (up m (rk (5 * 0 + g)) 2 0)) 1 (by rfl) ?_
  refine ev_if1 rfl rfl (fun c12 => absurd c12 (by decide)) (fun c12 => ?_)
  refine ev_go (pc' := 17) (ls' := [some (vR (some 92)), some (vI 0), some (vI ((g : Nat) : Int)), some (vR (some (rk (5 * 0 + g)))), none]) (st' := [vR (some 92), vR (some (rk (5 * 0 + g)))]) (h1 := HS t (up m (rk (5 * 0 + g)) 2 0)) 2 (by rfl) ?_
  refine ev_getR rfl rfl (rfl : rf 92 0 = some 78) ?_
  refine ev_go (pc' := 23) (ls' := [some (vR (some 92)), some (vI 0), some (vI ((g : Nat) : Int)), some (vR (some (rk (5 * 0 + g)))), none]) (st' := [vI ((g : Nat) : Int), vI (-1), vI 0, vR (some 78), vR (some (rk (5 * 0 + g)))]) (h1 := HS t (up m (rk (5 * 0 + g)) 2 0)) 3 (by rfl) ?_
  refine ev_call rfl rfl (Nat.le_of_ble_eq_true rfl) harc ⟨Nat.le_refl _, Nat.le_refl _⟩ ?_
  show Ev (PP L xs) _ 50 26 [some (vR (some 92)), some (vI 0), some (vI ((g : Nat) : Int)), some (vR (some (rk (5 * 0 + g)))), none] [vJ (m 86 g * m 80 g), vR (some (rk (5 * 0 + g)))] (HS t (up m (rk (5 * 0 + g)) 2 0)) _ _
  refine ev_go (pc' := 27) (ls' := [some (vR (some 92)), some (vI 0), some (vI ((g : Nat) : Int)), some (vR (some (rk (5 * 0 + g)))), none]) (st' := [vI ((g : Nat) : Int), vJ (m 86 g * m 80 g), vR (some (rk (5 * 0 + g)))]) (h1 := HS t (up m (rk (5 * 0 + g)) 2 0)) 1 (by rfl) ?_
  refine ev_call rfl (hs_callV (i := 29) (c := 3) (n := 2) (nx := 30) (a := (rk (5 * 0 + g))) (as := [vJ (m 86 g * m 80 g), vI ((g : Nat) : Int)]) (ls := [some (vR (some 92)), some (vI 0), some (vI ((g : Nat) : Int)), some (vR (some (rk (5 * 0 + g)))), none]) (st := [vI ((g : Nat) : Int), vJ (m 86 g * m 80 g), vR (some (rk (5 * 0 + g)))]) rfl hj.1 rfl rfl) (Nat.le_of_ble_eq_true rfl) hE1 ⟨Nat.le_refl _, Nat.le_refl _⟩ ?_
  show Ev (PP L xs) _ 50 30 [some (vR (some 92)), some (vI 0), some (vI ((g : Nat) : Int)), some (vR (some (rk (5 * 0 + g)))), none] [] (HS t m1) _ _
  exact ev_retE rfl rfl (by first | rfl | (simp [*]; done) | (split <;> first | rfl | (exfalso; omega))) (by first | rfl | (simp [*]; done) | (split <;> first | rfl | (exfalso; omega)))
