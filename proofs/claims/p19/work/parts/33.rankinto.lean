/-! ===== the trellis: all tags of a place ===== -/
def TR (a0 : Nat → Int) (aa : Nat → Nat → Nat → Int) : Nat → Nat → List Pr
  | 0, g => oL [] (a0 g, (g : Int))
  | p + 1, g => upF (TR a0 aa p) (fun f => aa (p + 1) f g) (g : Int) 5 0 []
def ARC (m : mMM) (a0 : Nat → Int) (aa : Nat → Nat → Nat → Int) : Prop := (∀ g, g < 5 → a0 g = m 86 g * m 80 g) ∧ ∀ p, p < 5 → ∀ f, f < 5 → ∀ g, g < 5 → aa p f g = m (86 + (f + 1)) g * m (80 + p) g
theorem ARC_fr {m m' : mMM} {a : Nat} {a0 : Nat → Int} {aa : Nat → Nat → Nat → Int} (h : FR m m' a) (ha : 92 ≤ a) (hb : ARC m a0 aa) : ARC m' a0 aa :=
  ⟨fun g hg => by rw [h 86 g (by omega) (by omega) (by omega), h 80 g (by omega) (by omega) (by omega)]; exact hb.1 g hg, fun p hp f hf g hg => by rw [h (86 + (f + 1)) g (by omega) (by omega) (by omega), h (80 + p) g (by omega) (by omega) (by omega)]; exact hb.2 p hp f hf g hg⟩
/-- what a product of weights may be, so that the next one fits -/
def TRB (a0 : Nat → Int) (aa : Nat → Nat → Nat → Int) (n : Nat) : Prop := (∀ g, g < 5 → inJ (a0 g) = true) ∧ ∀ p, p + 1 < n → ∀ f, f < 5 → ∀ x, x ∈ TR a0 aa p f → ∀ g, g < 5 → inJ (x.1 * aa (p + 1) f g) = true ∧ 0 ≤ x.2 ∧ x.2 < 268435456
def FRp (m m' : mMM) (p : Nat) : Prop := ∀ b k, (b < rk (5 * p) ∨ rk (5 * p) + 15 ≤ b) → m' b k = m b k
theorem c_uptoT {L : Nat} {xs : Nat → Int32} {t : Bool × Nat × Nat} {d p g n : Nat} {m : mMM} {a0 : Nat → Int} {aa : Nat → Nat → Nat → Int} (hp : p < n) (hn : n ≤ 5) (hg : g < 5) (hlb : LBD m) (ha : ARC m a0 aa) (hT : TRB a0 aa n) (hR : 0 < p → ∀ f, f < 5 → RK m (rk (5 * (p - 1) + f)) (TR a0 aa (p - 1) f)) : ∃ m', Ev (PP L xs) (d + 3) 50 0 (entL 5 [vR (some 92), vI (p : Int), vI (g : Int)]) [] (HS t m) (.inl none) (HS t m') ∧ RK m' (rk (5 * p + g)) (TR a0 aa p g) ∧ FR m m' (rk (5 * p + g)) ∧ Srt (TR a0 aa p g) ∧ BD (TR a0 aa p g) := by
  cases p with
  | zero =>
    have e := ha.1 g hg
    obtain ⟨m1, hE, h1, h2, h3, h4⟩ := c_upto0 (L := L) (xs := xs) (t := t) (d := d) (m := m) hg hlb (by rw [← e]; exact hT.1 g hg)
    rw [← e] at h1 h2 h3
    exact ⟨m1, hE, h1, h4, h2, h3⟩
  | succ p =>
    obtain ⟨m1, hE, h1, h2, h3, h4⟩ := c_upto (L := L) (xs := xs) (t := t) (d := d) (m := m) (p := p + 1) (g := g) (R := TR a0 aa p) (A := fun f => aa (p + 1) f g) (by omega) (by omega) hg (fun f hf x hx => hT.2 p (by omega) f hf x hx g hg) hlb (fun f hf => ha.2 (p + 1) (by omega) f hf g hg) (fun f hf => hR (by omega) f hf)
    exact ⟨m1, hE, h1, h4, h2, h3⟩
set_option maxRecDepth 10000 in
theorem l_into_tags {L : Nat} {xs : Nat → Int32} {t : Bool × Nat × Nat} {d p n b : Nat} {e : Int} {a0 : Nat → Int} {aa : Nat → Nat → Nat → Int} (hp : p < n) (hn : n ≤ 5) (hT : TRB a0 aa n) : ∀ (c g : Nat) (m : mMM), g + c = 5 → LBD m → ARC m a0 aa → (0 < p → ∀ f, f < 5 → RK m (rk (5 * (p - 1) + f)) (TR a0 aa (p - 1) f)) → ∃ m', (∀ f, f < 5 → g ≤ f → RK m' (rk (5 * p + f)) (TR a0 aa p f)) ∧ (∀ f, f < g → ∀ b k, rk (5 * p + f) ≤ b → b ≤ rk (5 * p + f) + 2 → m' b k = m b k) ∧ FRp m m' p ∧ ∀ o h', Ev (PP L xs) (d + 4) 49 44 [some (vR (some 92)), some (vR (some b)), some (vI e), some (vI (p : Int)), some (vI 5)] [] (HS t m') o h' → Ev (PP L xs) (d + 4) 49 25 [some (vR (some 92)), some (vR (some b)), some (vI e), some (vI (p : Int)), some (vI (g : Int))] [] (HS t m) o h' := by
  intro c
  induction c with
  | zero =>
    intro g m hg hlb ha hR
    refine ⟨m, fun f hf h => absurd h (by omega), fun _ _ _ _ _ _ => rfl, fun _ _ _ => rfl, fun o h' hE => ?_⟩
    have eg : g = 5 := by omega
    subst eg
    refine ev_go (pc' := 28) (ls' := [some (vR (some 92)), some (vR (some b)), some (vI e), some (vI ((p : Nat) : Int)), some (vI ((5 : Nat) : Int))]) (st' := [vI 5, vI ((5 : Nat) : Int)]) (h1 := HS t m) 2 (by rfl) ?_
    refine ev_ic3 rfl (inI_of (by omega) (by omega)) rfl (fun c28 => ?_) (fun c28 => absurd c28 (by omega))
    exact hE
  | succ c IH =>
    intro g m hg hlb ha hR
    have eR : ∀ x, rk x = 106 + 3 * x := fun _ => rfl
    obtain ⟨m1, hE1, hR1, hF1, hS1, hB1⟩ := c_uptoT (L := L) (xs := xs) (t := t) (d := d) (m := m) (g := g) hp hn (by omega) hlb ha hT hR
    obtain ⟨m2, hR2, hO2, hF2, hK⟩ := IH (g + 1) m1 (by omega) (LBD_fr hF1 (by rw [eR]; omega) hlb) (ARC_fr hF1 (by rw [eR]; omega) ha) (fun h0 f hf => RK_fr hF1 (by rw [eR, eR]; omega) (hR h0 f hf))
    refine ⟨m2, fun f hf h => ?_, fun f hf b k h1 h2 => ?_, fun b k hb => ?_, fun o h' hE => ?_⟩
    · by_cases c0 : f = g
      · subst c0
        exact ⟨by rw [hO2 f (by omega) _ 2 (by omega) (by omega)]; exact hR1.1, hR1.2.1, fun k hk => ⟨by rw [hO2 f (by omega) _ k (by omega) (by omega)]; exact (hR1.2.2 k hk).1, by rw [hO2 f (by omega) _ k (by omega) (by omega)]; exact (hR1.2.2 k hk).2⟩⟩
      · exact hR2 f hf (by omega)
    · rw [hO2 f (by omega) b k h1 h2]; rw [eR] at h1 h2; exact hF1 b k (by rw [eR]; omega) (by rw [eR]; omega) (by rw [eR]; omega)
    · rw [hF2 b k hb]; rw [eR] at hb; exact hF1 b k (by rw [eR]; omega) (by rw [eR]; omega) (by rw [eR]; omega)
    · refine ev_go (pc' := 28) (ls' := [some (vR (some 92)), some (vR (some b)), some (vI e), some (vI ((p : Nat) : Int)), some (vI ((g : Nat) : Int))]) (st' := [vI 5, vI ((g : Nat) : Int)]) (h1 := HS t m) 2 (by rfl) ?_
      refine ev_ic3 rfl (inI_of (by omega) (by omega)) rfl (fun c28 => absurd c28 (by omega)) (fun c28 => ?_)
      refine ev_go (pc' := 35) (ls' := [some (vR (some 92)), some (vR (some b)), some (vI e), some (vI ((p : Nat) : Int)), some (vI ((g : Nat) : Int))]) (st' := [vI ((g : Nat) : Int), vI ((p : Nat) : Int), vR (some 92)]) (h1 := HS t m) 3 (by rfl) ?_
      refine ev_call rfl rfl (Nat.le_of_ble_eq_true rfl) hE1 ⟨Nat.le_refl _, Nat.le_refl _⟩ ?_
      show Ev (PP L xs) _ 49 38 [some (vR (some 92)), some (vR (some b)), some (vI e), some (vI ((p : Nat) : Int)), some (vI ((g : Nat) : Int))] [] (HS t m1) _ _
      refine ev_go (pc' := 25) (ls' := [some (vR (some 92)), some (vR (some b)), some (vI e), some (vI ((p : Nat) : Int)), some (vI ((g + 1 : Nat) : Int))]) (st' := []) (h1 := HS t m1) 2 (by rfl) ?_
      exact hK o h' hE
