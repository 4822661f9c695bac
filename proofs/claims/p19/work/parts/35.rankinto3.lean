/-! ===== the trellis: the best of all ===== -/
def allF (R : Nat → List Pr) : Nat → Nat → List Pr → List Pr
  | 0, _, l => l
  | c + 1, i, l => allF R c (i + 1) ((R i).foldl oL l)
set_option maxRecDepth 10000 in
theorem l_into_last {L : Nat} {xs : Nat → Int32} {t : Bool × Nat × Nat} {d n b : Nat} {R : Nat → List Pr} {q : Option mMV} (hn : n < 5) (hb : RKA b) (hb181 : 181 ≤ b) (hBD : ∀ f, f < 5 → BD (R f)) : ∀ (c i : Nat) (l : List Pr) (m : mMM), i + c = 5 → RK m b l → Srt l → BD l → (∀ f, f < 5 → RK m (rk (5 * n + f)) (R f)) → ∃ m', Ev (PP L xs) (d + 4) 49 52 [some (vR (some 92)), some (vR (some b)), some (vI ((n : Nat) : Int)), some (vI (i : Int)), q] [] (HS t m) (.inl none) (HS t m') ∧ RK m' b (allF R c i l) ∧ Srt (allF R c i l) ∧ BD (allF R c i l) ∧ FR m m' b := by
  intro c
  induction c with
  | zero =>
    intro i l m hi hr hs hbd hR
    refine ⟨m, ?_, hr, hs, hbd, fun _ _ _ _ _ => rfl⟩
    refine ev_go (pc' := 54) (ls' := [some (vR (some 92)), some (vR (some b)), some (vI ((n : Nat) : Int)), some (vI ((i : Nat) : Int)), q]) (st' := [vI 5, vI ((i : Nat) : Int)]) (h1 := HS t m) 2 (by rfl) ?_
    refine ev_ic3 rfl (inI_of (by omega) (by omega)) rfl (fun c54 => ?_) (fun c54 => absurd c54 (by omega))
    exact ev_retE rfl rfl (by first | rfl | (simp [*]; done) | (split <;> first | rfl | (exfalso; omega))) (by first | rfl | (simp [*]; done) | (split <;> first | rfl | (exfalso; omega)))
  | succ c IH =>
    intro i l m hi hr hs hbd hR
    have eR : ∀ x, rk x = 106 + 3 * x := fun _ => rfl
    have hi5 : i < 5 := by omega
    obtain ⟨m1, hE1, hR1, hS1, hB1, hF1⟩ := c_offerAll (L := L) (xs := xs) (t := t) (d := d + 1) hb (RKA_rk (i := 5 * n + i) (by omega)) (by rw [eR]; omega) (hBD i hi5) hr hs hbd (hR i hi5)
    obtain ⟨m2, hE2, hR2, hS2, hB2, hF2⟩ := IH (i + 1) _ m1 (by omega) hR1 hS1 hB1 (fun f hf => RK_fr hF1 (by rw [eR]; omega) (hR f hf))
    refine ⟨m2, ?_, hR2, hS2, hB2, FR_trans hF1 hF2⟩
    refine ev_go (pc' := 54) (ls' := [some (vR (some 92)), some (vR (some b)), some (vI ((n : Nat) : Int)), some (vI ((i : Nat) : Int)), q]) (st' := [vI 5, vI ((i : Nat) : Int)]) (h1 := HS t m) 2 (by rfl) ?_
    refine ev_ic3 rfl (inI_of (by omega) (by omega)) rfl (fun c54 => absurd c54 (by omega)) (fun c54 => ?_)
    refine ev_go (pc' := 61) (ls' := [some (vR (some 92)), some (vR (some b)), some (vI ((n : Nat) : Int)), some (vI ((i : Nat) : Int)), q]) (st' := [vI ((i : Nat) : Int), vI ((n : Nat) : Int), vR (some 92), vR (some b)]) (h1 := HS t m) 4 (by rfl) ?_
    refine ev_call rfl rfl (Nat.le_of_ble_eq_true rfl) (c_rankingAt hn hi5) ⟨Nat.le_refl _, Nat.le_refl _⟩ ?_
    show Ev (PP L xs) _ 49 64 [some (vR (some 92)), some (vR (some b)), some (vI ((n : Nat) : Int)), some (vI ((i : Nat) : Int)), q] [vR (some (rk (5 * n + i))), vR (some b)] (HS t m) _ _
    refine ev_call rfl (hs_callV (i := 31) (c := 3) (n := 1) (nx := 67) (a := b) (as := [vR (some (rk (5 * n + i)))]) (ls := [some (vR (some 92)), some (vR (some b)), some (vI ((n : Nat) : Int)), some (vI ((i : Nat) : Int)), q]) (st := [vR (some (rk (5 * n + i))), vR (some b)]) rfl hb.1 rfl rfl) (Nat.le_of_ble_eq_true rfl) hE1 ⟨Nat.le_refl _, Nat.le_refl _⟩ ?_
    show Ev (PP L xs) _ 49 67 [some (vR (some 92)), some (vR (some b)), some (vI ((n : Nat) : Int)), some (vI ((i : Nat) : Int)), q] [] (HS t m1) _ _
    refine ev_go (pc' := 52) (ls' := [some (vR (some 92)), some (vR (some b)), some (vI ((n : Nat) : Int)), some (vI ((i + 1 : Nat) : Int)), q]) (st' := []) (h1 := HS t m1) 2 (by rfl) ?_
    exact hE2
set_option maxRecDepth 10000 in
theorem c_rankInto {L : Nat} {xs : Nat → Int32} {t : Bool × Nat × Nat} {d n b : Nat} {m : mMM} {a0 : Nat → Int} {aa : Nat → Nat → Nat → Int} (hn : n < 5) (hn1 : m 75 2 = ((n + 1 : Nat) : Int)) (hb : RKA b) (hb181 : 181 ≤ b) (hT : TRB a0 aa (n + 1)) (hlb : LBD m) (ha : ARC m a0 aa) (hr : m b 2 = 0) (hBD : ∀ f, f < 5 → BD (TR a0 aa n f)) : ∃ m', Ev (PP L xs) (d + 4) 49 0 (entL 5 [vR (some 92), vR (some b)]) [] (HS t m) (.inl none) (HS t m') ∧ RK m' b (allF (TR a0 aa n) 5 0 []) ∧ Srt (allF (TR a0 aa n) 5 0 []) ∧ BD (allF (TR a0 aa n) 5 0 []) ∧ (∀ b2 k, b2 ≠ b → b2 ≠ b + 1 → b2 ≠ b + 2 → (b2 < 106 ∨ 181 ≤ b2) → m' b2 k = m b2 k) := by
  obtain ⟨m1, q1, hR1, hF1, hK1⟩ := l_into_places (L := L) (xs := xs) (t := t) (d := d) (b := b) hn hT (n + 1) 0 m none (by omega) hlb ha (fun h => absurd h (by omega))
  have hr1 : RK m1 b [] := ⟨by rw [hF1 b 2 (by omega)]; exact hr, Nat.zero_le _, fun k hk => absurd hk (Nat.not_lt_zero k)⟩
  obtain ⟨m2, hE2, hR2, hS2, hB2, hF2⟩ := l_into_last (L := L) (xs := xs) (t := t) (d := d) (q := q1) hn hb hb181 hBD 5 0 [] m1 rfl hr1 List.Pairwise.nil (fun x hx => absurd hx (List.not_mem_nil)) hR1
  refine ⟨m2, ?_, hR2, hS2, hB2, fun b2 k h1 h2 h3 h4 => (hF2 b2 k h1 h2 h3).trans (hF1 b2 k h4)⟩
  have hsz := c_la_size (L := L) (xs := xs) (d := d + 2) (t := t) (m := m)
  rw [hn1] at hsz
  refine ev_go (pc' := 1) (ls' := [some (vR (some 92)), some (vR (some b)), none, none, none]) (st' := [vR (some 92)]) (h1 := HS t m) 1 (by rfl) ?_
  refine ev_getR rfl rfl (rfl : rf 92 0 = some 78) ?_
  refine ev_call rfl rfl (Nat.le_of_ble_eq_true rfl) hsz ⟨Nat.le_refl _, Nat.le_refl _⟩ ?_
  show Ev (PP L xs) _ 49 7 [some (vR (some 92)), some (vR (some b)), none, none, none] [vI ((n + 1 : Nat) : Int)] (HS t m) _ _
  refine ev_go (pc' := 9) (ls' := [some (vR (some 92)), some (vR (some b)), none, none, none]) (st' := [vI (((n + 1 : Nat) : Int) - 1)]) (h1 := HS t m) 2 (by rfl) ?_
  refine ev_go (pc' := 11) (ls' := [some (vR (some 92)), some (vR (some b)), some (vI (((n + 1 : Nat) : Int) - 1)), none, none]) (st' := [vI (((n + 1 : Nat) : Int) - 1)]) (h1 := HS t m) 2 (by rfl) ?_
  rw [show (((n + 1 : Nat) : Int) - 1) = ((n : Nat) : Int) by omega]
  refine ev_if3 rfl (inI_of (by omega) (by omega)) (fun c11 => ?_) (fun c11 => absurd c11 (by omega))
  refine ev_go (pc' := 17) (ls' := [some (vR (some 92)), some (vR (some b)), some (vI ((n : Nat) : Int)), some (vI 0), none]) (st' := []) (h1 := HS t m) 2 (by rfl) ?_
  refine hK1 _ _ ?_
  refine ev_go (pc' := 52) (ls' := [some (vR (some 92)), some (vR (some b)), some (vI ((n : Nat) : Int)), some (vI 0), q1]) (st' := []) (h1 := HS t m1) 2 (by rfl) ?_
  exact hE2
