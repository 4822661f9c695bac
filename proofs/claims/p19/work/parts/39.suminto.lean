/-! ===== the trellis: all sums ahead, all sums behind, the sums of a place ===== -/
def AH (a0 : Nat → Int) (aa : Nat → Nat → Nat → Int) : Nat → Nat → Int
  | 0, g => a0 g
  | p + 1, g => S5 (fun f => AH a0 aa p f * aa (p + 1) f g)
def BH (aa : Nat → Nat → Nat → Int) : Nat → Nat → Nat → Int
  | 0, _, _ => 1
  | c + 1, p, g => S5 (fun f => aa (p + 1) g f * BH aa c (p + 1) f)
def FRq (m m' : mMM) : Prop := ∀ b k, (b < 93 ∨ 106 ≤ b) → m' b k = m b k
theorem FRq_trans {m m1 m2 : mMM} (h : FRq m m1) (h2 : FRq m1 m2) : FRq m m2 := fun b k hb => (h2 b k hb).trans (h b k hb)
theorem LBD_frq {m m' : mMM} (h : FRq m m') (hb : LBD m) : LBD m' := ⟨fun p hp k hk => by rw [h (80 + p) k (by omega)]; exact hb.1 p hp k hk, fun r hr k hk => by rw [h (86 + r) k (by omega)]; exact hb.2 r hr k hk⟩
theorem ARC_frq {m m' : mMM} {a0 : Nat → Int} {aa : Nat → Nat → Nat → Int} (h : FRq m m') (hb : ARC m a0 aa) : ARC m' a0 aa :=
  ⟨fun g hg => by rw [h 86 g (by omega), h 80 g (by omega)]; exact hb.1 g hg, fun p hp f hf g hg => by rw [h (86 + (f + 1)) g (by omega), h (80 + p) g (by omega)]; exact hb.2 p hp f hf g hg⟩
theorem FRo_q {m m' : mMM} {a : Nat} (ha : 93 ≤ a ∧ a < 106) (h : FRo m m' a) : FRq m m' := fun b k hb => h b k (by omega)
theorem c_sumAT {L : Nat} {xs : Nat → Int32} {t : Bool × Nat × Nat} {d p g : Nat} {m : mMM} {a0 : Nat → Int} {aa : Nat → Nat → Nat → Int} (hp : p < 5) (hg : g < 5) (hlb : LBD m) (ha : ARC m a0 aa) (hR : 0 < p → ∀ f, f < 5 → m (95 + (p - 1)) f = AH a0 aa (p - 1) f) : Ev (PP L xs) (d + 1) 53 0 (entL 6 [vR (some 92), vI (p : Int), vI (g : Int)]) [] (HS t m) (.inl (some (vJ (AH a0 aa p g)))) (HS t m) := by
  cases p with
  | zero => have h := c_sumA0 (L := L) (xs := xs) (t := t) (d := d) hg hlb; rw [← ha.1 g hg] at h; exact h
  | succ p =>
    have h := c_sumA (L := L) (xs := xs) (t := t) (d := d) (p := p + 1) hp (by omega) hg hlb
    rw [S5_congr (g := fun f => AH a0 aa p f * aa (p + 1) f g) (fun f hf => by
      show m (95 + (p + 1 - 1)) f * (m (86 + (f + 1)) g * m (80 + (p + 1)) g) = AH a0 aa p f * aa (p + 1) f g
      rw [hR (by omega) f hf, ← ha.2 (p + 1) hp f hf g hg, Nat.add_sub_cancel])] at h
    exact h
theorem c_sumBT {L : Nat} {xs : Nat → Int32} {t : Bool × Nat × Nat} {d p g c n : Nat} {m : mMM} {a0 : Nat → Int} {aa : Nat → Nat → Nat → Int} (hn : m 75 2 = (n : Int)) (hn5 : n ≤ 5) (hp : p + c + 1 = n) (hg : g < 5) (hlb : LBD m) (ha : ARC m a0 aa) (hR : 0 < c → ∀ f, f < 5 → m (101 + (p + 1)) f = BH aa (c - 1) (p + 1) f) : Ev (PP L xs) (d + 2) 54 0 (entL 6 [vR (some 92), vI (p : Int), vI (g : Int)]) [] (HS t m) (.inl (some (vJ (BH aa c p g)))) (HS t m) := by
  cases c with
  | zero => exact c_sumB0 (L := L) (xs := xs) (t := t) (d := d) (p := p) (g := g) (by rw [hn]; omega) (by omega)
  | succ c =>
    have h := c_sumB (L := L) (xs := xs) (t := t) (d := d) (p := p) hn hn5 (by omega) hg hlb
    rw [S5_congr (g := fun f => aa (p + 1) g f * BH aa c (p + 1) f) (fun f hf => by
      show m (86 + (g + 1)) f * m (80 + (p + 1)) f * m (101 + (p + 1)) f = aa (p + 1) g f * BH aa c (p + 1) f
      rw [hR (by omega) f hf, ← ha.2 (p + 1) (by omega) g hg f hf, Nat.add_sub_cancel])] at h
    exact h
set_option maxRecDepth 10000 in
theorem l_sumA_in {L : Nat} {xs : Nat → Int32} {t : Bool × Nat × Nat} {d P p : Nat} {a0 : Nat → Int} {aa : Nat → Nat → Nat → Int} (hp : p < 5) : ∀ (c g : Nat) (m : mMM), g + c = 5 → LBD m → ARC m a0 aa → (0 < p → ∀ f, f < 5 → m (95 + (p - 1)) f = AH a0 aa (p - 1) f) → ∃ m', (∀ f, f < 5 → g ≤ f → m' (95 + p) f = AH a0 aa p f) ∧ (∀ f, f < g → m' (95 + p) f = m (95 + p) f) ∧ FRo m m' (95 + p) ∧ ∀ o h', Ev (PP L xs) (d + 3) 52 38 [some (vR (some 92)), some (vR (some 189)), some (vI ((P : Nat) : Int)), some (vI ((p : Nat) : Int)), some (vI ((5 : Nat) : Int))] [] (HS t m') o h' → Ev (PP L xs) (d + 3) 52 10 [some (vR (some 92)), some (vR (some 189)), some (vI ((P : Nat) : Int)), some (vI ((p : Nat) : Int)), some (vI ((g : Nat) : Int))] [] (HS t m) o h' := by
  intro c
  induction c with
  | zero =>
    intro g m hg hlb ha hR
    refine ⟨m, fun f hf h => absurd h (by omega), fun _ _ => rfl, fun _ _ _ => rfl, fun o h' hE => ?_⟩
    have eg : g = 5 := by omega
    subst eg
    refine ev_go (pc' := 13) (ls' := [some (vR (some 92)), some (vR (some 189)), some (vI ((P : Nat) : Int)), some (vI ((p : Nat) : Int)), some (vI ((5 : Nat) : Int))]) (st' := [vI 5, vI ((5 : Nat) : Int)]) (h1 := HS t m) 2 (by rfl) ?_
    refine ev_ic3 rfl (inI_of (by omega) (by omega)) rfl (fun c13 => ?_) (fun c13 => absurd c13 (by omega))
    exact hE
  | succ c IH =>
    intro g m hg hlb ha hR
    have hF : FRo m (up m (95 + p) g (AH a0 aa p g)) (95 + p) := fun b k hb => up_ne1 _ _ hb
    have hq := FRo_q (by omega) hF
    obtain ⟨m2, h1, h2, h3, hK⟩ := IH (g + 1) (up m (95 + p) g (AH a0 aa p g)) (by omega) (LBD_frq hq hlb) (ARC_frq hq ha) (fun h0 f hf => by rw [hF _ f (by omega)]; exact hR h0 f hf)
    refine ⟨m2, fun f hf h => ?_, fun f hf => ?_, FRo_trans hF h3, fun o h' hE => ?_⟩
    · by_cases c0 : f = g
      · subst c0; rw [h2 f (by omega), up_eq]
      · exact h1 f hf (by omega)
    · rw [h2 f (by omega), up_ne2 _ _ (by omega)]
    · refine ev_go (pc' := 13) (ls' := [some (vR (some 92)), some (vR (some 189)), some (vI ((P : Nat) : Int)), some (vI ((p : Nat) : Int)), some (vI ((g : Nat) : Int))]) (st' := [vI 5, vI ((g : Nat) : Int)]) (h1 := HS t m) 2 (by rfl) ?_
      refine ev_ic3 rfl (inI_of (by omega) (by omega)) rfl (fun c13 => absurd c13 (by omega)) (fun c13 => ?_)
      refine ev_go (pc' := 17) (ls' := [some (vR (some 92)), some (vR (some 189)), some (vI ((P : Nat) : Int)), some (vI ((p : Nat) : Int)), some (vI ((g : Nat) : Int))]) (st' := [vR (some 92)]) (h1 := HS t m) 1 (by rfl) ?_
      refine ev_getR rfl rfl (rfl : rf 92 2 = some 94) ?_
      refine ev_go (pc' := 21) (ls' := [some (vR (some 92)), some (vR (some 189)), some (vI ((P : Nat) : Int)), some (vI ((p : Nat) : Int)), some (vI ((g : Nat) : Int))]) (st' := [vI ((p : Nat) : Int), vR (some 94)]) (h1 := HS t m) 1 (by rfl) ?_
      refine ev_aald (k := p) rfl rfl rfl (by omega) ((rf_rows p hp).2.2.1 : rf 94 p = some (95 + p)) ?_
      refine ev_go (pc' := 28) (ls' := [some (vR (some 92)), some (vR (some 189)), some (vI ((P : Nat) : Int)), some (vI ((p : Nat) : Int)), some (vI ((g : Nat) : Int))]) (st' := [vI ((g : Nat) : Int), vI ((p : Nat) : Int), vR (some 92), vI ((g : Nat) : Int), vR (some (95 + p))]) (h1 := HS t m) 4 (by rfl) ?_
      refine ev_call rfl rfl (Nat.le_of_ble_eq_true rfl) (c_sumAT (a0 := a0) (aa := aa) (p := p) (g := g) (by omega) (by omega) hlb ha hR) ⟨Nat.le_refl _, Nat.le_refl _⟩ ?_
      show Ev (PP L xs) _ 52 31 [some (vR (some 92)), some (vR (some 189)), some (vI ((P : Nat) : Int)), some (vI ((p : Nat) : Int)), some (vI ((g : Nat) : Int))] [vJ (AH a0 aa p g), vI ((g : Nat) : Int), vR (some (95 + p))] (HS t m) _ _
      refine ev_last (k := g) rfl (kd_rows p hp).2.2.1 rfl (by omega) ?_
      refine ev_go (pc' := 10) (ls' := [some (vR (some 92)), some (vR (some 189)), some (vI ((P : Nat) : Int)), some (vI ((p : Nat) : Int)), some (vI ((g + 1 : Nat) : Int))]) (st' := []) (h1 := HS t (up m (95 + p) g (AH a0 aa p g))) 2 (by rfl) ?_
      exact hK o h' hE
set_option maxRecDepth 10000 in
theorem l_sumA_out {L : Nat} {xs : Nat → Int32} {t : Bool × Nat × Nat} {d P : Nat} {a0 : Nat → Int} {aa : Nat → Nat → Nat → Int} (hP : P < 5) : ∀ (c p : Nat) (m : mMM) (q : Option mMV), p + c = P + 1 → LBD m → ARC m a0 aa → (0 < p → ∀ f, f < 5 → m (95 + (p - 1)) f = AH a0 aa (p - 1) f) → ∃ m' q', (∀ f, f < 5 → m' (95 + P) f = AH a0 aa P f) ∧ (∀ b k, ¬ (95 ≤ b ∧ b ≤ 99) → m' b k = m b k) ∧ ∀ o h', Ev (PP L xs) (d + 3) 52 44 [some (vR (some 92)), some (vR (some 189)), some (vI ((P : Nat) : Int)), some (vI ((P + 1 : Nat) : Int)), q'] [] (HS t m') o h' → Ev (PP L xs) (d + 3) 52 2 [some (vR (some 92)), some (vR (some 189)), some (vI ((P : Nat) : Int)), some (vI ((p : Nat) : Int)), q] [] (HS t m) o h' := by
  intro c
  induction c with
  | zero =>
    intro p m q hp hlb ha hR
    have ep : p = P + 1 := by omega
    subst ep
    refine ⟨m, q, fun f hf => by have h := hR (by omega) f hf; rwa [Nat.add_sub_cancel] at h, fun _ _ _ => rfl, fun o h' hE => ?_⟩
    refine ev_go (pc' := 4) (ls' := [some (vR (some 92)), some (vR (some 189)), some (vI ((P : Nat) : Int)), some (vI ((P + 1 : Nat) : Int)), q]) (st' := [vI ((P : Nat) : Int), vI ((P + 1 : Nat) : Int)]) (h1 := HS t m) 2 (by rfl) ?_
    refine ev_ic4 rfl (inI_of (by omega) (by omega)) (inI_of (by omega) (by omega)) (fun c4 => ?_) (fun c4 => absurd c4 (by omega))
    exact hE
  | succ c IH =>
    intro p m q hp hlb ha hR
    obtain ⟨m1, h1, h2, h3, hK1⟩ := l_sumA_in (L := L) (xs := xs) (t := t) (d := d) (P := P) (p := p) (by omega) 5 0 m rfl hlb ha hR
    have hq := FRo_q (by omega) h3
    obtain ⟨m2, q2, h4, h5, hK2⟩ := IH (p + 1) m1 (some (vI 5)) (by omega) (LBD_frq hq hlb) (ARC_frq hq ha) (fun _ f hf => by rw [Nat.add_sub_cancel]; exact h1 f hf (Nat.zero_le _))
    refine ⟨m2, q2, h4, fun b k hb => (h5 b k hb).trans (h3 b k (by omega)), fun o h' hE => ?_⟩
    refine ev_go (pc' := 4) (ls' := [some (vR (some 92)), some (vR (some 189)), some (vI ((P : Nat) : Int)), some (vI ((p : Nat) : Int)), q]) (st' := [vI ((P : Nat) : Int), vI ((p : Nat) : Int)]) (h1 := HS t m) 2 (by rfl) ?_
    refine ev_ic4 rfl (inI_of (by omega) (by omega)) (inI_of (by omega) (by omega)) (fun c4 => absurd c4 (by omega)) (fun c4 => ?_)
    refine ev_go (pc' := 10) (ls' := [some (vR (some 92)), some (vR (some 189)), some (vI ((P : Nat) : Int)), some (vI ((p : Nat) : Int)), some (vI 0)]) (st' := []) (h1 := HS t m) 2 (by rfl) ?_
    refine hK1 o h' ?_
    refine ev_go (pc' := 2) (ls' := [some (vR (some 92)), some (vR (some 189)), some (vI ((P : Nat) : Int)), some (vI ((p + 1 : Nat) : Int)), some (vI 5)]) (st' := []) (h1 := HS t m1) 2 (by rfl) ?_
    exact hK2 o h' hE
set_option maxRecDepth 10000 in
theorem l_sumB_in {L : Nat} {xs : Nat → Int32} {t : Bool × Nat × Nat} {d P p e n : Nat} {a0 : Nat → Int} {aa : Nat → Nat → Nat → Int} (hn5 : n ≤ 5) (hp : p + e + 1 = n) : ∀ (c g : Nat) (m : mMM), g + c = 5 → m 75 2 = (n : Int) → LBD m → ARC m a0 aa → (0 < e → ∀ f, f < 5 → m (101 + (p + 1)) f = BH aa (e - 1) (p + 1) f) → ∃ m', (∀ f, f < 5 → g ≤ f → m' (101 + p) f = BH aa e p f) ∧ (∀ f, f < g → m' (101 + p) f = m (101 + p) f) ∧ FRo m m' (101 + p) ∧ ∀ o h', Ev (PP L xs) (d + 3) 52 90 [some (vR (some 92)), some (vR (some 189)), some (vI ((P : Nat) : Int)), some (vI ((p : Nat) : Int)), some (vI ((5 : Nat) : Int))] [] (HS t m') o h' → Ev (PP L xs) (d + 3) 52 62 [some (vR (some 92)), some (vR (some 189)), some (vI ((P : Nat) : Int)), some (vI ((p : Nat) : Int)), some (vI ((g : Nat) : Int))] [] (HS t m) o h' := by
  intro c
  induction c with
  | zero =>
    intro g m hg hn hlb ha hR
    refine ⟨m, fun f hf h => absurd h (by omega), fun _ _ => rfl, fun _ _ _ => rfl, fun o h' hE => ?_⟩
    have eg : g = 5 := by omega
    subst eg
    refine ev_go (pc' := 65) (ls' := [some (vR (some 92)), some (vR (some 189)), some (vI ((P : Nat) : Int)), some (vI ((p : Nat) : Int)), some (vI ((5 : Nat) : Int))]) (st' := [vI 5, vI ((5 : Nat) : Int)]) (h1 := HS t m) 2 (by rfl) ?_
    refine ev_ic3 rfl (inI_of (by omega) (by omega)) rfl (fun c65 => ?_) (fun c65 => absurd c65 (by omega))
    exact hE
  | succ c IH =>
    intro g m hg hn hlb ha hR
    have hF : FRo m (up m (101 + p) g (BH aa e p g)) (101 + p) := fun b k hb => up_ne1 _ _ hb
    have hq := FRo_q (by omega) hF
    obtain ⟨m2, h1, h2, h3, hK⟩ := IH (g + 1) (up m (101 + p) g (BH aa e p g)) (by omega) (by rw [hF 75 2 (by omega)]; exact hn) (LBD_frq hq hlb) (ARC_frq hq ha) (fun h0 f hf => by rw [hF _ f (by omega)]; exact hR h0 f hf)
    refine ⟨m2, fun f hf h => ?_, fun f hf => ?_, FRo_trans hF h3, fun o h' hE => ?_⟩
    · by_cases c0 : f = g
      · subst c0; rw [h2 f (by omega), up_eq]
      · exact h1 f hf (by omega)
    · rw [h2 f (by omega), up_ne2 _ _ (by omega)]
    · refine ev_go (pc' := 65) (ls' := [some (vR (some 92)), some (vR (some 189)), some (vI ((P : Nat) : Int)), some (vI ((p : Nat) : Int)), some (vI ((g : Nat) : Int))]) (st' := [vI 5, vI ((g : Nat) : Int)]) (h1 := HS t m) 2 (by rfl) ?_
      refine ev_ic3 rfl (inI_of (by omega) (by omega)) rfl (fun c65 => absurd c65 (by omega)) (fun c65 => ?_)
      refine ev_go (pc' := 69) (ls' := [some (vR (some 92)), some (vR (some 189)), some (vI ((P : Nat) : Int)), some (vI ((p : Nat) : Int)), some (vI ((g : Nat) : Int))]) (st' := [vR (some 92)]) (h1 := HS t m) 1 (by rfl) ?_
      refine ev_getR rfl rfl (rfl : rf 92 3 = some 100) ?_
      refine ev_go (pc' := 73) (ls' := [some (vR (some 92)), some (vR (some 189)), some (vI ((P : Nat) : Int)), some (vI ((p : Nat) : Int)), some (vI ((g : Nat) : Int))]) (st' := [vI ((p : Nat) : Int), vR (some 100)]) (h1 := HS t m) 1 (by rfl) ?_
      refine ev_aald (k := p) rfl rfl rfl (by omega) ((rf_rows p (by omega)).2.2.2 : rf 100 p = some (101 + p)) ?_
      refine ev_go (pc' := 80) (ls' := [some (vR (some 92)), some (vR (some 189)), some (vI ((P : Nat) : Int)), some (vI ((p : Nat) : Int)), some (vI ((g : Nat) : Int))]) (st' := [vI ((g : Nat) : Int), vI ((p : Nat) : Int), vR (some 92), vI ((g : Nat) : Int), vR (some (101 + p))]) (h1 := HS t m) 4 (by rfl) ?_
      refine ev_call rfl rfl (Nat.le_of_ble_eq_true rfl) (c_sumBT (a0 := a0) (aa := aa) (p := p) (g := g) (c := e) hn hn5 hp (by omega) hlb ha hR) ⟨Nat.le_refl _, Nat.le_refl _⟩ ?_
      show Ev (PP L xs) _ 52 83 [some (vR (some 92)), some (vR (some 189)), some (vI ((P : Nat) : Int)), some (vI ((p : Nat) : Int)), some (vI ((g : Nat) : Int))] [vJ (BH aa e p g), vI ((g : Nat) : Int), vR (some (101 + p))] (HS t m) _ _
      refine ev_last (k := g) rfl (kd_rows p (by omega)).2.2.2 rfl (by omega) ?_
      refine ev_go (pc' := 62) (ls' := [some (vR (some 92)), some (vR (some 189)), some (vI ((P : Nat) : Int)), some (vI ((p : Nat) : Int)), some (vI ((g + 1 : Nat) : Int))]) (st' := []) (h1 := HS t (up m (101 + p) g (BH aa e p g))) 2 (by rfl) ?_
      exact hK o h' hE
set_option maxRecDepth 10000 in
theorem l_sumB_out {L : Nat} {xs : Nat → Int32} {t : Bool × Nat × Nat} {d P n : Nat} {a0 : Nat → Int} {aa : Nat → Nat → Nat → Int} (hn5 : n ≤ 5) : ∀ (c e : Nat) (m : mMM) (q : Option mMV), P + c + e = n → 0 < c + e → m 75 2 = (n : Int) → LBD m → ARC m a0 aa → (0 < e → ∀ f, f < 5 → m (101 + (P + c)) f = BH aa (e - 1) (P + c) f) → ∃ m' q', (∀ f, f < 5 → m' (101 + P) f = BH aa (c + e - 1) P f) ∧ (∀ b k, ¬ (101 ≤ b ∧ b ≤ 105) → m' b k = m b k) ∧ ∀ o h', Ev (PP L xs) (d + 3) 52 96 [some (vR (some 92)), some (vR (some 189)), some (vI ((P : Nat) : Int)), some (vI (((P : Nat) : Int) - 1)), q'] [] (HS t m') o h' → Ev (PP L xs) (d + 3) 52 54 [some (vR (some 92)), some (vR (some 189)), some (vI ((P : Nat) : Int)), some (vI (((P + c : Nat) : Int) - 1)), q] [] (HS t m) o h' := by
  intro c
  induction c with
  | zero =>
    intro e m q he h0 hn hlb ha hR
    refine ⟨m, q, fun f hf => by have h := hR (by omega) f hf; rwa [Nat.add_zero, show e - 1 = 0 + e - 1 by omega] at h, fun _ _ _ => rfl, fun o h' hE => ?_⟩
    refine ev_go (pc' := 56) (ls' := [some (vR (some 92)), some (vR (some 189)), some (vI ((P : Nat) : Int)), some (vI (((P + 0 : Nat) : Int) - 1)), q]) (st' := [vI ((P : Nat) : Int), vI (((P + 0 : Nat) : Int) - 1)]) (h1 := HS t m) 2 (by rfl) ?_
    refine ev_ic2 rfl (inI_of (by omega) (by omega)) (inI_of (by omega) (by omega)) (fun c56 => ?_) (fun c56 => absurd c56 (by omega))
    exact hE
  | succ c IH =>
    intro e m q he h0 hn hlb ha hR
    obtain ⟨m1, h1, h2, h3, hK1⟩ := l_sumB_in (L := L) (xs := xs) (t := t) (d := d) (P := P) (p := P + c) (e := e) (n := n) hn5 (by omega) 5 0 m rfl hn hlb ha hR
    have hq := FRo_q (by omega) h3
    obtain ⟨m2, q2, h4, h5, hK2⟩ := IH (e + 1) m1 (some (vI 5)) (by omega) (by omega) (by rw [h3 75 2 (by omega)]; exact hn) (LBD_frq hq hlb) (ARC_frq hq ha) (fun _ f hf => by rw [Nat.add_sub_cancel]; exact h1 f hf (Nat.zero_le _))
    refine ⟨m2, q2, fun f hf => ?_, fun b k hb => (h5 b k hb).trans (h3 b k (by omega)), fun o h' hE => ?_⟩
    · rw [h4 f hf, show c + (e + 1) - 1 = c + 1 + e - 1 by omega]
    · rw [show (((P + (c + 1) : Nat) : Int) - 1) = ((P + c : Nat) : Int) by omega]
      refine ev_go (pc' := 56) (ls' := [some (vR (some 92)), some (vR (some 189)), some (vI ((P : Nat) : Int)), some (vI ((P + c : Nat) : Int)), q]) (st' := [vI ((P : Nat) : Int), vI ((P + c : Nat) : Int)]) (h1 := HS t m) 2 (by rfl) ?_
      refine ev_ic2 rfl (inI_of (by omega) (by omega)) (inI_of (by omega) (by omega)) (fun c56 => absurd c56 (by omega)) (fun c56 => ?_)
      refine ev_go (pc' := 62) (ls' := [some (vR (some 92)), some (vR (some 189)), some (vI ((P : Nat) : Int)), some (vI ((P + c : Nat) : Int)), some (vI 0)]) (st' := []) (h1 := HS t m) 2 (by rfl) ?_
      refine hK1 o h' ?_
      refine ev_go (pc' := 54) (ls' := [some (vR (some 92)), some (vR (some 189)), some (vI ((P : Nat) : Int)), some (vI (((P + c : Nat) : Int) + (-1))), some (vI 5)]) (st' := []) (h1 := HS t m1) 2 (by rfl) ?_
      exact hK2 o h' hE
set_option maxRecDepth 10000 in
theorem c_sumInto {L : Nat} {xs : Nat → Int32} {t : Bool × Nat × Nat} {d P c n : Nat} {m : mMM} {a0 : Nat → Int} {aa : Nat → Nat → Nat → Int} (hn : m 75 2 = (n : Int)) (hn5 : n ≤ 5) (hP : P + c = n) (hc : 0 < c) (hlb : LBD m) (ha : ARC m a0 aa) : ∃ m', Ev (PP L xs) (d + 3) 52 0 (entL 5 [vR (some 92), vR (some 189), vI (P : Int)]) [] (HS t m) (.inl none) (HS t m') ∧ (∀ g, g < 5 → m' 189 g = AH a0 aa P g * BH aa (c - 1) P g) ∧ ∀ b k, ¬ (95 ≤ b ∧ b ≤ 99) → ¬ (101 ≤ b ∧ b ≤ 105) → b ≠ 189 → m' b k = m b k := by
  obtain ⟨m1, q1, h1, h2, hK1⟩ := l_sumA_out (L := L) (xs := xs) (t := t) (d := d) (P := P) (by omega) (P + 1) 0 m none (by omega) hlb ha (fun h => absurd h (Nat.lt_irrefl 0))
  have hn1 : m1 75 2 = (n : Int) := by rw [h2 75 2 (by omega)]; exact hn
  have hq : FRq m m1 := fun b k hb => h2 b k (by omega)
  obtain ⟨m2, q2, h4, h5, hK2⟩ := l_sumB_out (L := L) (xs := xs) (t := t) (d := d) (P := P) (n := n) (a0 := a0) (aa := aa) hn5 c 0 m1 q1 (by omega) (by omega) hn1 (LBD_frq hq hlb) (ARC_frq hq ha) (fun h => absurd h (Nat.lt_irrefl 0))
  have e1 : ∀ f, f < 5 → m2 (95 + P) f = AH a0 aa P f := fun f hf => by rw [h5 (95 + P) f (by omega)]; exact h1 f hf
  have e2 : ∀ f, f < 5 → m2 (101 + P) f = BH aa (c - 1) P f := fun f hf => h4 f hf
  refine ⟨u5 m2 189 (fun g => AH a0 aa P g * BH aa (c - 1) P g), ?_, fun g hg => u5_at _ _ _ g hg, fun b k hb1 hb2 hb3 => by rw [u5_ne _ _ _ hb3, h5 b k hb2, h2 b k hb1]⟩
  refine ev_go (pc' := 2) (ls' := [some (vR (some 92)), some (vR (some 189)), some (vI ((P : Nat) : Int)), some (vI 0), none]) (st' := []) (h1 := HS t m) 2 (by rfl) ?_
  refine hK1 _ _ ?_
  refine ev_go (pc' := 45) (ls' := [some (vR (some 92)), some (vR (some 189)), some (vI ((P : Nat) : Int)), some (vI ((P + 1 : Nat) : Int)), q1]) (st' := [vR (some 92)]) (h1 := HS t m1) 1 (by rfl) ?_
  refine ev_getR rfl rfl (rfl : rf 92 0 = some 78) ?_
  have hsz := c_la_size (L := L) (xs := xs) (d := d + 1) (t := t) (m := m1)
  rw [hn1] at hsz
  refine ev_call rfl rfl (Nat.le_of_ble_eq_true rfl) hsz ⟨Nat.le_refl _, Nat.le_refl _⟩ ?_
  show Ev (PP L xs) _ 52 51 [some (vR (some 92)), some (vR (some 189)), some (vI ((P : Nat) : Int)), some (vI ((P + 1 : Nat) : Int)), q1] [vI ((n : Nat) : Int)] (HS t m1) _ _
  refine ev_go (pc' := 54) (ls' := [some (vR (some 92)), some (vR (some 189)), some (vI ((P : Nat) : Int)), some (vI (((n : Nat) : Int) - 1)), q1]) (st' := []) (h1 := HS t m1) 3 (by rfl) ?_
  rw [show (((n : Nat) : Int) - 1) = (((P + c : Nat) : Int) - 1) by omega]
  refine hK2 _ _ ?_
  refine ev_go (pc' := 100) (ls' := [some (vR (some 92)), some (vR (some 189)), some (vI ((P : Nat) : Int)), some (vI 0), q2]) (st' := [vI 5, vI 0]) (h1 := HS t m2) 4 (by rfl) ?_
  refine ev_ic3 rfl rfl rfl (fun c100 => absurd c100 (by decide)) (fun c100 => ?_)
  refine ev_go (pc' := 106) (ls' := [some (vR (some 92)), some (vR (some 189)), some (vI ((P : Nat) : Int)), some (vI 0), q2]) (st' := [vR (some 92), vI 0, vR (some 189)]) (h1 := HS t m2) 3 (by rfl) ?_
  refine ev_getR rfl rfl (rfl : rf 92 2 = some 94) ?_
  refine ev_go (pc' := 110) (ls' := [some (vR (some 92)), some (vR (some 189)), some (vI ((P : Nat) : Int)), some (vI 0), q2]) (st' := [vI ((P : Nat) : Int), vR (some 94), vI 0, vR (some 189)]) (h1 := HS t m2) 1 (by rfl) ?_
  refine ev_aald (k := P) rfl rfl rfl (by omega) ((rf_rows P (by omega)).2.2.1 : rf 94 P = some (95 + P)) ?_
  refine ev_go (pc' := 112) (ls' := [some (vR (some 92)), some (vR (some 189)), some (vI ((P : Nat) : Int)), some (vI 0), q2]) (st' := [vI 0, vR (some (95 + P)), vI 0, vR (some 189)]) (h1 := HS t m2) 1 (by rfl) ?_
  refine ev_laldv (k := 0) (v := (AH a0 aa P 0)) rfl (kd_rows P (by omega)).2.2.1 rfl (by omega) ((e1 0 (by omega))) ?_
  refine ev_go (pc' := 114) (ls' := [some (vR (some 92)), some (vR (some 189)), some (vI ((P : Nat) : Int)), some (vI 0), q2]) (st' := [vR (some 92), vJ (AH a0 aa P 0), vI 0, vR (some 189)]) (h1 := HS t m2) 1 (by rfl) ?_
  refine ev_getR rfl rfl (rfl : rf 92 3 = some 100) ?_
  refine ev_go (pc' := 118) (ls' := [some (vR (some 92)), some (vR (some 189)), some (vI ((P : Nat) : Int)), some (vI 0), q2]) (st' := [vI ((P : Nat) : Int), vR (some 100), vJ (AH a0 aa P 0), vI 0, vR (some 189)]) (h1 := HS t m2) 1 (by rfl) ?_
  refine ev_aald (k := P) rfl rfl rfl (by omega) ((rf_rows P (by omega)).2.2.2 : rf 100 P = some (101 + P)) ?_
  refine ev_go (pc' := 120) (ls' := [some (vR (some 92)), some (vR (some 189)), some (vI ((P : Nat) : Int)), some (vI 0), q2]) (st' := [vI 0, vR (some (101 + P)), vJ (AH a0 aa P 0), vI 0, vR (some 189)]) (h1 := HS t m2) 1 (by rfl) ?_
  refine ev_laldv (k := 0) (v := (BH aa (c - 1) P 0)) rfl (kd_rows P (by omega)).2.2.2 rfl (by omega) ((e2 0 (by omega))) ?_
  refine ev_go (pc' := 122) (ls' := [some (vR (some 92)), some (vR (some 189)), some (vI ((P : Nat) : Int)), some (vI 0), q2]) (st' := [vJ ((AH a0 aa P 0) * (BH aa (c - 1) P 0)), vI 0, vR (some 189)]) (h1 := HS t m2) 1 (by rfl) ?_
  refine ev_last (k := 0) rfl rfl rfl (by omega) ?_
  refine ev_go (pc' := 100) (ls' := [some (vR (some 92)), some (vR (some 189)), some (vI ((P : Nat) : Int)), some (vI 1), q2]) (st' := [vI 5, vI 1]) (h1 := HS t (up m2 189 0 ((AH a0 aa P 0) * (BH aa (c - 1) P 0)))) 4 (by rfl) ?_
  refine ev_ic3 rfl rfl rfl (fun c100 => absurd c100 (by decide)) (fun c100 => ?_)
  refine ev_go (pc' := 106) (ls' := [some (vR (some 92)), some (vR (some 189)), some (vI ((P : Nat) : Int)), some (vI 1), q2]) (st' := [vR (some 92), vI 1, vR (some 189)]) (h1 := HS t (up m2 189 0 ((AH a0 aa P 0) * (BH aa (c - 1) P 0)))) 3 (by rfl) ?_
  refine ev_getR rfl rfl (rfl : rf 92 2 = some 94) ?_
  refine ev_go (pc' := 110) (ls' := [some (vR (some 92)), some (vR (some 189)), some (vI ((P : Nat) : Int)), some (vI 1), q2]) (st' := [vI ((P : Nat) : Int), vR (some 94), vI 1, vR (some 189)]) (h1 := HS t (up m2 189 0 ((AH a0 aa P 0) * (BH aa (c - 1) P 0)))) 1 (by rfl) ?_
  refine ev_aald (k := P) rfl rfl rfl (by omega) ((rf_rows P (by omega)).2.2.1 : rf 94 P = some (95 + P)) ?_
  refine ev_go (pc' := 112) (ls' := [some (vR (some 92)), some (vR (some 189)), some (vI ((P : Nat) : Int)), some (vI 1), q2]) (st' := [vI 1, vR (some (95 + P)), vI 1, vR (some 189)]) (h1 := HS t (up m2 189 0 ((AH a0 aa P 0) * (BH aa (c - 1) P 0)))) 1 (by rfl) ?_
  refine ev_laldv (k := 1) (v := (AH a0 aa P 1)) rfl (kd_rows P (by omega)).2.2.1 rfl (by omega) (((up_ne1 _ _ (by omega))).trans ((e1 1 (by omega)))) ?_
  refine ev_go (pc' := 114) (ls' := [some (vR (some 92)), some (vR (some 189)), some (vI ((P : Nat) : Int)), some (vI 1), q2]) (st' := [vR (some 92), vJ (AH a0 aa P 1), vI 1, vR (some 189)]) (h1 := HS t (up m2 189 0 ((AH a0 aa P 0) * (BH aa (c - 1) P 0)))) 1 (by rfl) ?_
  refine ev_getR rfl rfl (rfl : rf 92 3 = some 100) ?_
  refine ev_go (pc' := 118) (ls' := [some (vR (some 92)), some (vR (some 189)), some (vI ((P : Nat) : Int)), some (vI 1), q2]) (st' := [vI ((P : Nat) : Int), vR (some 100), vJ (AH a0 aa P 1), vI 1, vR (some 189)]) (h1 := HS t (up m2 189 0 ((AH a0 aa P 0) * (BH aa (c - 1) P 0)))) 1 (by rfl) ?_
  refine ev_aald (k := P) rfl rfl rfl (by omega) ((rf_rows P (by omega)).2.2.2 : rf 100 P = some (101 + P)) ?_
  refine ev_go (pc' := 120) (ls' := [some (vR (some 92)), some (vR (some 189)), some (vI ((P : Nat) : Int)), some (vI 1), q2]) (st' := [vI 1, vR (some (101 + P)), vJ (AH a0 aa P 1), vI 1, vR (some 189)]) (h1 := HS t (up m2 189 0 ((AH a0 aa P 0) * (BH aa (c - 1) P 0)))) 1 (by rfl) ?_
  refine ev_laldv (k := 1) (v := (BH aa (c - 1) P 1)) rfl (kd_rows P (by omega)).2.2.2 rfl (by omega) (((up_ne1 _ _ (by omega))).trans ((e2 1 (by omega)))) ?_
  refine ev_go (pc' := 122) (ls' := [some (vR (some 92)), some (vR (some 189)), some (vI ((P : Nat) : Int)), some (vI 1), q2]) (st' := [vJ ((AH a0 aa P 1) * (BH aa (c - 1) P 1)), vI 1, vR (some 189)]) (h1 := HS t (up m2 189 0 ((AH a0 aa P 0) * (BH aa (c - 1) P 0)))) 1 (by rfl) ?_
  refine ev_last (k := 1) rfl rfl rfl (by omega) ?_
  refine ev_go (pc' := 100) (ls' := [some (vR (some 92)), some (vR (some 189)), some (vI ((P : Nat) : Int)), some (vI 2), q2]) (st' := [vI 5, vI 2]) (h1 := HS t (up (up m2 189 0 ((AH a0 aa P 0) * (BH aa (c - 1) P 0))) 189 1 ((AH a0 aa P 1) * (BH aa (c - 1) P 1)))) 4 (by rfl) ?_
  refine ev_ic3 rfl rfl rfl (fun c100 => absurd c100 (by decide)) (fun c100 => ?_)
  refine ev_go (pc' := 106) (ls' := [some (vR (some 92)), some (vR (some 189)), some (vI ((P : Nat) : Int)), some (vI 2), q2]) (st' := [vR (some 92), vI 2, vR (some 189)]) (h1 := HS t (up (up m2 189 0 ((AH a0 aa P 0) * (BH aa (c - 1) P 0))) 189 1 ((AH a0 aa P 1) * (BH aa (c - 1) P 1)))) 3 (by rfl) ?_
  refine ev_getR rfl rfl (rfl : rf 92 2 = some 94) ?_
  refine ev_go (pc' := 110) (ls' := [some (vR (some 92)), some (vR (some 189)), some (vI ((P : Nat) : Int)), some (vI 2), q2]) (st' := [vI ((P : Nat) : Int), vR (some 94), vI 2, vR (some 189)]) (h1 := HS t (up (up m2 189 0 ((AH a0 aa P 0) * (BH aa (c - 1) P 0))) 189 1 ((AH a0 aa P 1) * (BH aa (c - 1) P 1)))) 1 (by rfl) ?_
  refine ev_aald (k := P) rfl rfl rfl (by omega) ((rf_rows P (by omega)).2.2.1 : rf 94 P = some (95 + P)) ?_
  refine ev_go (pc' := 112) (ls' := [some (vR (some 92)), some (vR (some 189)), some (vI ((P : Nat) : Int)), some (vI 2), q2]) (st' := [vI 2, vR (some (95 + P)), vI 2, vR (some 189)]) (h1 := HS t (up (up m2 189 0 ((AH a0 aa P 0) * (BH aa (c - 1) P 0))) 189 1 ((AH a0 aa P 1) * (BH aa (c - 1) P 1)))) 1 (by rfl) ?_
  refine ev_laldv (k := 2) (v := (AH a0 aa P 2)) rfl (kd_rows P (by omega)).2.2.1 rfl (by omega) (((up_ne1 _ _ (by omega))).trans (((up_ne1 _ _ (by omega))).trans ((e1 2 (by omega))))) ?_
  refine ev_go (pc' := 114) (ls' := [some (vR (some 92)), some (vR (some 189)), some (vI ((P : Nat) : Int)), some (vI 2), q2]) (st' := [vR (some 92), vJ (AH a0 aa P 2), vI 2, vR (some 189)]) (h1 := HS t (up (up m2 189 0 ((AH a0 aa P 0) * (BH aa (c - 1) P 0))) 189 1 ((AH a0 aa P 1) * (BH aa (c - 1) P 1)))) 1 (by rfl) ?_
  refine ev_getR rfl rfl (rfl : rf 92 3 = some 100) ?_
  refine ev_go (pc' := 118) (ls' := [some (vR (some 92)), some (vR (some 189)), some (vI ((P : Nat) : Int)), some (vI 2), q2]) (st' := [vI ((P : Nat) : Int), vR (some 100), vJ (AH a0 aa P 2), vI 2, vR (some 189)]) (h1 := HS t (up (up m2 189 0 ((AH a0 aa P 0) * (BH aa (c - 1) P 0))) 189 1 ((AH a0 aa P 1) * (BH aa (c - 1) P 1)))) 1 (by rfl) ?_
  refine ev_aald (k := P) rfl rfl rfl (by omega) ((rf_rows P (by omega)).2.2.2 : rf 100 P = some (101 + P)) ?_
  refine ev_go (pc' := 120) (ls' := [some (vR (some 92)), some (vR (some 189)), some (vI ((P : Nat) : Int)), some (vI 2), q2]) (st' := [vI 2, vR (some (101 + P)), vJ (AH a0 aa P 2), vI 2, vR (some 189)]) (h1 := HS t (up (up m2 189 0 ((AH a0 aa P 0) * (BH aa (c - 1) P 0))) 189 1 ((AH a0 aa P 1) * (BH aa (c - 1) P 1)))) 1 (by rfl) ?_
  refine ev_laldv (k := 2) (v := (BH aa (c - 1) P 2)) rfl (kd_rows P (by omega)).2.2.2 rfl (by omega) (((up_ne1 _ _ (by omega))).trans (((up_ne1 _ _ (by omega))).trans ((e2 2 (by omega))))) ?_
  refine ev_go (pc' := 122) (ls' := [some (vR (some 92)), some (vR (some 189)), some (vI ((P : Nat) : Int)), some (vI 2), q2]) (st' := [vJ ((AH a0 aa P 2) * (BH aa (c - 1) P 2)), vI 2, vR (some 189)]) (h1 := HS t (up (up m2 189 0 ((AH a0 aa P 0) * (BH aa (c - 1) P 0))) 189 1 ((AH a0 aa P 1) * (BH aa (c - 1) P 1)))) 1 (by rfl) ?_
  refine ev_last (k := 2) rfl rfl rfl (by omega) ?_
  refine ev_go (pc' := 100) (ls' := [some (vR (some 92)), some (vR (some 189)), some (vI ((P : Nat) : Int)), some (vI 3), q2]) (st' := [vI 5, vI 3]) (h1 := HS t (up (up (up m2 189 0 ((AH a0 aa P 0) * (BH aa (c - 1) P 0))) 189 1 ((AH a0 aa P 1) * (BH aa (c - 1) P 1))) 189 2 ((AH a0 aa P 2) * (BH aa (c - 1) P 2)))) 4 (by rfl) ?_
  refine ev_ic3 rfl rfl rfl (fun c100 => absurd c100 (by decide)) (fun c100 => ?_)
  refine ev_go (pc' := 106) (ls' := [some (vR (some 92)), some (vR (some 189)), some (vI ((P : Nat) : Int)), some (vI 3), q2]) (st' := [vR (some 92), vI 3, vR (some 189)]) (h1 := HS t (up (up (up m2 189 0 ((AH a0 aa P 0) * (BH aa (c - 1) P 0))) 189 1 ((AH a0 aa P 1) * (BH aa (c - 1) P 1))) 189 2 ((AH a0 aa P 2) * (BH aa (c - 1) P 2)))) 3 (by rfl) ?_
  refine ev_getR rfl rfl (rfl : rf 92 2 = some 94) ?_
  refine ev_go (pc' := 110) (ls' := [some (vR (some 92)), some (vR (some 189)), some (vI ((P : Nat) : Int)), some (vI 3), q2]) (st' := [vI ((P : Nat) : Int), vR (some 94), vI 3, vR (some 189)]) (h1 := HS t (up (up (up m2 189 0 ((AH a0 aa P 0) * (BH aa (c - 1) P 0))) 189 1 ((AH a0 aa P 1) * (BH aa (c - 1) P 1))) 189 2 ((AH a0 aa P 2) * (BH aa (c - 1) P 2)))) 1 (by rfl) ?_
  refine ev_aald (k := P) rfl rfl rfl (by omega) ((rf_rows P (by omega)).2.2.1 : rf 94 P = some (95 + P)) ?_
  refine ev_go (pc' := 112) (ls' := [some (vR (some 92)), some (vR (some 189)), some (vI ((P : Nat) : Int)), some (vI 3), q2]) (st' := [vI 3, vR (some (95 + P)), vI 3, vR (some 189)]) (h1 := HS t (up (up (up m2 189 0 ((AH a0 aa P 0) * (BH aa (c - 1) P 0))) 189 1 ((AH a0 aa P 1) * (BH aa (c - 1) P 1))) 189 2 ((AH a0 aa P 2) * (BH aa (c - 1) P 2)))) 1 (by rfl) ?_
  refine ev_laldv (k := 3) (v := (AH a0 aa P 3)) rfl (kd_rows P (by omega)).2.2.1 rfl (by omega) (((up_ne1 _ _ (by omega))).trans (((up_ne1 _ _ (by omega))).trans (((up_ne1 _ _ (by omega))).trans ((e1 3 (by omega)))))) ?_
  refine ev_go (pc' := 114) (ls' := [some (vR (some 92)), some (vR (some 189)), some (vI ((P : Nat) : Int)), some (vI 3), q2]) (st' := [vR (some 92), vJ (AH a0 aa P 3), vI 3, vR (some 189)]) (h1 := HS t (up (up (up m2 189 0 ((AH a0 aa P 0) * (BH aa (c - 1) P 0))) 189 1 ((AH a0 aa P 1) * (BH aa (c - 1) P 1))) 189 2 ((AH a0 aa P 2) * (BH aa (c - 1) P 2)))) 1 (by rfl) ?_
  refine ev_getR rfl rfl (rfl : rf 92 3 = some 100) ?_
  refine ev_go (pc' := 118) (ls' := [some (vR (some 92)), some (vR (some 189)), some (vI ((P : Nat) : Int)), some (vI 3), q2]) (st' := [vI ((P : Nat) : Int), vR (some 100), vJ (AH a0 aa P 3), vI 3, vR (some 189)]) (h1 := HS t (up (up (up m2 189 0 ((AH a0 aa P 0) * (BH aa (c - 1) P 0))) 189 1 ((AH a0 aa P 1) * (BH aa (c - 1) P 1))) 189 2 ((AH a0 aa P 2) * (BH aa (c - 1) P 2)))) 1 (by rfl) ?_
  refine ev_aald (k := P) rfl rfl rfl (by omega) ((rf_rows P (by omega)).2.2.2 : rf 100 P = some (101 + P)) ?_
  refine ev_go (pc' := 120) (ls' := [some (vR (some 92)), some (vR (some 189)), some (vI ((P : Nat) : Int)), some (vI 3), q2]) (st' := [vI 3, vR (some (101 + P)), vJ (AH a0 aa P 3), vI 3, vR (some 189)]) (h1 := HS t (up (up (up m2 189 0 ((AH a0 aa P 0) * (BH aa (c - 1) P 0))) 189 1 ((AH a0 aa P 1) * (BH aa (c - 1) P 1))) 189 2 ((AH a0 aa P 2) * (BH aa (c - 1) P 2)))) 1 (by rfl) ?_
  refine ev_laldv (k := 3) (v := (BH aa (c - 1) P 3)) rfl (kd_rows P (by omega)).2.2.2 rfl (by omega) (((up_ne1 _ _ (by omega))).trans (((up_ne1 _ _ (by omega))).trans (((up_ne1 _ _ (by omega))).trans ((e2 3 (by omega)))))) ?_
  refine ev_go (pc' := 122) (ls' := [some (vR (some 92)), some (vR (some 189)), some (vI ((P : Nat) : Int)), some (vI 3), q2]) (st' := [vJ ((AH a0 aa P 3) * (BH aa (c - 1) P 3)), vI 3, vR (some 189)]) (h1 := HS t (up (up (up m2 189 0 ((AH a0 aa P 0) * (BH aa (c - 1) P 0))) 189 1 ((AH a0 aa P 1) * (BH aa (c - 1) P 1))) 189 2 ((AH a0 aa P 2) * (BH aa (c - 1) P 2)))) 1 (by rfl) ?_
  refine ev_last (k := 3) rfl rfl rfl (by omega) ?_
  refine ev_go (pc' := 100) (ls' := [some (vR (some 92)), some (vR (some 189)), some (vI ((P : Nat) : Int)), some (vI 4), q2]) (st' := [vI 5, vI 4]) (h1 := HS t (up (up (up (up m2 189 0 ((AH a0 aa P 0) * (BH aa (c - 1) P 0))) 189 1 ((AH a0 aa P 1) * (BH aa (c - 1) P 1))) 189 2 ((AH a0 aa P 2) * (BH aa (c - 1) P 2))) 189 3 ((AH a0 aa P 3) * (BH aa (c - 1) P 3)))) 4 (by rfl) ?_
  refine ev_ic3 rfl rfl rfl (fun c100 => absurd c100 (by decide)) (fun c100 => ?_)
  refine ev_go (pc' := 106) (ls' := [some (vR (some 92)), some (vR (some 189)), some (vI ((P : Nat) : Int)), some (vI 4), q2]) (st' := [vR (some 92), vI 4, vR (some 189)]) (h1 := HS t (up (up (up (up m2 189 0 ((AH a0 aa P 0) * (BH aa (c - 1) P 0))) 189 1 ((AH a0 aa P 1) * (BH aa (c - 1) P 1))) 189 2 ((AH a0 aa P 2) * (BH aa (c - 1) P 2))) 189 3 ((AH a0 aa P 3) * (BH aa (c - 1) P 3)))) 3 (by rfl) ?_
  refine ev_getR rfl rfl (rfl : rf 92 2 = some 94) ?_
  refine ev_go (pc' := 110) (ls' := [some (vR (some 92)), some (vR (some 189)), some (vI ((P : Nat) : Int)), some (vI 4), q2]) (st' := [vI ((P : Nat) : Int), vR (some 94), vI 4, vR (some 189)]) (h1 := HS t (up (up (up (up m2 189 0 ((AH a0 aa P 0) * (BH aa (c - 1) P 0))) 189 1 ((AH a0 aa P 1) * (BH aa (c - 1) P 1))) 189 2 ((AH a0 aa P 2) * (BH aa (c - 1) P 2))) 189 3 ((AH a0 aa P 3) * (BH aa (c - 1) P 3)))) 1 (by rfl) ?_
  refine ev_aald (k := P) rfl rfl rfl (by omega) ((rf_rows P (by omega)).2.2.1 : rf 94 P = some (95 + P)) ?_
  refine ev_go (pc' := 112) (ls' := [some (vR (some 92)), some (vR (some 189)), some (vI ((P : Nat) : Int)), some (vI 4), q2]) (st' := [vI 4, vR (some (95 + P)), vI 4, vR (some 189)]) (h1 := HS t (up (up (up (up m2 189 0 ((AH a0 aa P 0) * (BH aa (c - 1) P 0))) 189 1 ((AH a0 aa P 1) * (BH aa (c - 1) P 1))) 189 2 ((AH a0 aa P 2) * (BH aa (c - 1) P 2))) 189 3 ((AH a0 aa P 3) * (BH aa (c - 1) P 3)))) 1 (by rfl) ?_
  refine ev_laldv (k := 4) (v := (AH a0 aa P 4)) rfl (kd_rows P (by omega)).2.2.1 rfl (by omega) (((up_ne1 _ _ (by omega))).trans (((up_ne1 _ _ (by omega))).trans (((up_ne1 _ _ (by omega))).trans (((up_ne1 _ _ (by omega))).trans ((e1 4 (by omega))))))) ?_
  refine ev_go (pc' := 114) (ls' := [some (vR (some 92)), some (vR (some 189)), some (vI ((P : Nat) : Int)), some (vI 4), q2]) (st' := [vR (some 92), vJ (AH a0 aa P 4), vI 4, vR (some 189)]) (h1 := HS t (up (up (up (up m2 189 0 ((AH a0 aa P 0) * (BH aa (c - 1) P 0))) 189 1 ((AH a0 aa P 1) * (BH aa (c - 1) P 1))) 189 2 ((AH a0 aa P 2) * (BH aa (c - 1) P 2))) 189 3 ((AH a0 aa P 3) * (BH aa (c - 1) P 3)))) 1 (by rfl) ?_
  refine ev_getR rfl rfl (rfl : rf 92 3 = some 100) ?_
  refine ev_go (pc' := 118) (ls' := [some (vR (some 92)), some (vR (some 189)), some (vI ((P : Nat) : Int)), some (vI 4), q2]) (st' := [vI ((P : Nat) : Int), vR (some 100), vJ (AH a0 aa P 4), vI 4, vR (some 189)]) (h1 := HS t (up (up (up (up m2 189 0 ((AH a0 aa P 0) * (BH aa (c - 1) P 0))) 189 1 ((AH a0 aa P 1) * (BH aa (c - 1) P 1))) 189 2 ((AH a0 aa P 2) * (BH aa (c - 1) P 2))) 189 3 ((AH a0 aa P 3) * (BH aa (c - 1) P 3)))) 1 (by rfl) ?_
  refine ev_aald (k := P) rfl rfl rfl (by omega) ((rf_rows P (by omega)).2.2.2 : rf 100 P = some (101 + P)) ?_
  refine ev_go (pc' := 120) (ls' := [some (vR (some 92)), some (vR (some 189)), some (vI ((P : Nat) : Int)), some (vI 4), q2]) (st' := [vI 4, vR (some (101 + P)), vJ (AH a0 aa P 4), vI 4, vR (some 189)]) (h1 := HS t (up (up (up (up m2 189 0 ((AH a0 aa P 0) * (BH aa (c - 1) P 0))) 189 1 ((AH a0 aa P 1) * (BH aa (c - 1) P 1))) 189 2 ((AH a0 aa P 2) * (BH aa (c - 1) P 2))) 189 3 ((AH a0 aa P 3) * (BH aa (c - 1) P 3)))) 1 (by rfl) ?_
  refine ev_laldv (k := 4) (v := (BH aa (c - 1) P 4)) rfl (kd_rows P (by omega)).2.2.2 rfl (by omega) (((up_ne1 _ _ (by omega))).trans (((up_ne1 _ _ (by omega))).trans (((up_ne1 _ _ (by omega))).trans (((up_ne1 _ _ (by omega))).trans ((e2 4 (by omega))))))) ?_
  refine ev_go (pc' := 122) (ls' := [some (vR (some 92)), some (vR (some 189)), some (vI ((P : Nat) : Int)), some (vI 4), q2]) (st' := [vJ ((AH a0 aa P 4) * (BH aa (c - 1) P 4)), vI 4, vR (some 189)]) (h1 := HS t (up (up (up (up m2 189 0 ((AH a0 aa P 0) * (BH aa (c - 1) P 0))) 189 1 ((AH a0 aa P 1) * (BH aa (c - 1) P 1))) 189 2 ((AH a0 aa P 2) * (BH aa (c - 1) P 2))) 189 3 ((AH a0 aa P 3) * (BH aa (c - 1) P 3)))) 1 (by rfl) ?_
  refine ev_last (k := 4) rfl rfl rfl (by omega) ?_
  refine ev_go (pc' := 100) (ls' := [some (vR (some 92)), some (vR (some 189)), some (vI ((P : Nat) : Int)), some (vI 5), q2]) (st' := [vI 5, vI 5]) (h1 := HS t (up (up (up (up (up m2 189 0 ((AH a0 aa P 0) * (BH aa (c - 1) P 0))) 189 1 ((AH a0 aa P 1) * (BH aa (c - 1) P 1))) 189 2 ((AH a0 aa P 2) * (BH aa (c - 1) P 2))) 189 3 ((AH a0 aa P 3) * (BH aa (c - 1) P 3))) 189 4 ((AH a0 aa P 4) * (BH aa (c - 1) P 4)))) 4 (by rfl) ?_
  refine ev_ic3 rfl rfl rfl (fun c100 => ?_) (fun c100 => absurd c100 (by decide))
  exact ev_retE rfl rfl rfl rfl
