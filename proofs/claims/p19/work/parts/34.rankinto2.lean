/-! ===== the trellis: all places ===== -/
def FRk (m m' : mMM) : Prop := ∀ b k, (b < 106 ∨ 181 ≤ b) → m' b k = m b k
theorem FRp_k {m m' : mMM} {p : Nat} (hp : p < 5) (h : FRp m m' p) : FRk m m' := fun b k hb => h b k (by have e : rk (5 * p) = 106 + 3 * (5 * p) := rfl; omega)
theorem LBD_frk {m m' : mMM} (h : FRk m m') (hb : LBD m) : LBD m' := ⟨fun p hp k hk => by rw [h (80 + p) k (by omega)]; exact hb.1 p hp k hk, fun r hr k hk => by rw [h (86 + r) k (by omega)]; exact hb.2 r hr k hk⟩
theorem ARC_frk {m m' : mMM} {a0 : Nat → Int} {aa : Nat → Nat → Nat → Int} (h : FRk m m') (hb : ARC m a0 aa) : ARC m' a0 aa :=
  ⟨fun g hg => by rw [h 86 g (by omega), h 80 g (by omega)]; exact hb.1 g hg, fun p hp f hf g hg => by rw [h (86 + (f + 1)) g (by omega), h (80 + p) g (by omega)]; exact hb.2 p hp f hf g hg⟩
set_option maxRecDepth 10000 in
theorem l_into_places {L : Nat} {xs : Nat → Int32} {t : Bool × Nat × Nat} {d n b : Nat} {a0 : Nat → Int} {aa : Nat → Nat → Nat → Int} (hn : n < 5) (hT : TRB a0 aa (n + 1)) : ∀ (c p : Nat) (m : mMM) (q : Option mMV), p + c = n + 1 → LBD m → ARC m a0 aa → (0 < p → ∀ f, f < 5 → RK m (rk (5 * (p - 1) + f)) (TR a0 aa (p - 1) f)) → ∃ m' q', (∀ f, f < 5 → RK m' (rk (5 * n + f)) (TR a0 aa n f)) ∧ FRk m m' ∧ ∀ o h', Ev (PP L xs) (d + 4) 49 50 [some (vR (some 92)), some (vR (some b)), some (vI ((n : Nat) : Int)), some (vI ((n + 1 : Nat) : Int)), q'] [] (HS t m') o h' → Ev (PP L xs) (d + 4) 49 17 [some (vR (some 92)), some (vR (some b)), some (vI ((n : Nat) : Int)), some (vI (p : Int)), q] [] (HS t m) o h' := by
  intro c
  induction c with
  | zero =>
    intro p m q hp hlb ha hR
    have ep : p = n + 1 := by omega
    subst ep
    refine ⟨m, q, fun f hf => by have h := hR (by omega) f hf; rwa [Nat.add_sub_cancel] at h, fun _ _ _ => rfl, fun o h' hE => ?_⟩
    refine ev_go (pc' := 19) (ls' := [some (vR (some 92)), some (vR (some b)), some (vI ((n : Nat) : Int)), some (vI ((n + 1 : Nat) : Int)), q]) (st' := [vI ((n : Nat) : Int), vI ((n + 1 : Nat) : Int)]) (h1 := HS t m) 2 (by rfl) ?_
    refine ev_ic4 rfl (inI_of (by omega) (by omega)) (inI_of (by omega) (by omega)) (fun c19 => ?_) (fun c19 => absurd c19 (by omega))
    exact hE
  | succ c IH =>
    intro p m q hp hlb ha hR
    obtain ⟨m1, hR1, hO1, hF1, hK1⟩ := l_into_tags (L := L) (xs := xs) (t := t) (d := d) (b := b) (e := (n : Int)) (show p < n + 1 by omega) (by omega) hT 5 0 m rfl hlb ha hR
    have hk := FRp_k (by omega) hF1
    obtain ⟨m2, q2, hR2, hF2, hK2⟩ := IH (p + 1) m1 (some (vI 5)) (by omega) (LBD_frk hk hlb) (ARC_frk hk ha) (fun _ f hf => by rw [Nat.add_sub_cancel]; exact hR1 f hf (Nat.zero_le _))
    refine ⟨m2, q2, hR2, fun b k hb => (hF2 b k hb).trans (hk b k hb), fun o h' hE => ?_⟩
    refine ev_go (pc' := 19) (ls' := [some (vR (some 92)), some (vR (some b)), some (vI ((n : Nat) : Int)), some (vI ((p : Nat) : Int)), q]) (st' := [vI ((n : Nat) : Int), vI ((p : Nat) : Int)]) (h1 := HS t m) 2 (by rfl) ?_
    refine ev_ic4 rfl (inI_of (by omega) (by omega)) (inI_of (by omega) (by omega)) (fun c19 => absurd c19 (by omega)) (fun c19 => ?_)
    refine ev_go (pc' := 25) (ls' := [some (vR (some 92)), some (vR (some b)), some (vI ((n : Nat) : Int)), some (vI ((p : Nat) : Int)), some (vI 0)]) (st' := []) (h1 := HS t m) 2 (by rfl) ?_
    refine hK1 o h' ?_
    refine ev_go (pc' := 17) (ls' := [some (vR (some 92)), some (vR (some b)), some (vI ((n : Nat) : Int)), some (vI ((p + 1 : Nat) : Int)), some (vI 5)]) (st' := []) (h1 := HS t m1) 2 (by rfl) ?_
    exact hK2 o h' hE
