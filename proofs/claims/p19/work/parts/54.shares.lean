/-! ===== areShares ===== -/
def GA (m : mMM) (S : List (Int × Int)) : Prop := ∀ i, i < S.length → m 191 i = (gs S i).2
theorem GA_hi {m m' : mMM} {S : List (Int × Int)} (h : Hi m m') (hg : GA m S) : GA m' S := fun i hi => by rw [h 191 i (by decide)]; exact hg i hi
set_option maxRecDepth 10000 in
theorem l_sh_in {L : Nat} {xs : Nat → Int32} {t : Bool × Nat × Nat} {p : Nat} {w : Int} {k : Nat} {C : List Tx} {D : List (Int × Nat)} {S : List (Int × Int)} {Q : Option mMV ⊕ Nat → mMH → Prop} (hp : p < S.length) : ∀ (c g : Nat) (z7 : Option mMV) (m : mMM), g + c = 5 → IV m w k C D S → GA m S → (∀ m', Kp m m' → ∀ z7, Tg L xs 12 95 103 [some (vR (some 1)), some (vI ((S.length : Nat) : Int)), some (vR (some 191)), some (vI 1), some (vI ((p : Nat) : Int)), some (vI (shS C S p 5)), some (vI ((5 : Nat) : Int)), z7] [] (HS t m') Q) → Tg L xs 12 95 21 [some (vR (some 1)), some (vI ((S.length : Nat) : Int)), some (vR (some 191)), some (vI 1), some (vI ((p : Nat) : Int)), some (vI (shS C S p g)), some (vI ((g : Nat) : Int)), z7] [] (HS t m) Q := by
  intro c
  induction c with
  | zero =>
    intro g z7 m hc hI hG K
    have hg5 : g = 5 := by omega
    subst hg5
    refine tg (fun _ _ k => ev_go (pc' := 24) (ls' := [some (vR (some 1)), some (vI ((S.length : Nat) : Int)), some (vR (some 191)), some (vI 1), some (vI ((p : Nat) : Int)), some (vI (shS C S p 5)), some (vI ((5 : Nat) : Int)), z7]) (st' := [vI 5, vI ((5 : Nat) : Int)]) (h1 := HS t m) 2 (by rfl) k) ?_
    refine tg (fun _ _ k => ev_ic3 rfl (inI_of (by omega) (by omega)) rfl (fun c24 => k) (fun c24 => absurd c24 (by omega))) ?_
    exact K m (Kp_self hI.1.2.2.2) _
  | succ c IH =>
    intro g z7 m hc hI hG K
    have h5 := hI.1.2.2.1.2.1
    have hsb := share_bd hI.2.2.2.1 hI.2.2.2.2 h5 p g
    have hss := shS_bd hI.2.2.2.1 hI.2.2.2.2 h5 p g
    have hvs := hI.2.2.2.2 _ (gs_mem hp)
    have hs1 : 0 ≤ (gs S p).2 → (gs S p).2 = ((g : Nat) : Int) → spShare C S p g = 1000 := fun h0 h1 => by rw [share_lock hI.2.2.2.1 hI.2.2.2.2 hp (by omega) h0, if_pos h1]
    have hs0 : 0 ≤ (gs S p).2 → ¬ (gs S p).2 = ((g : Nat) : Int) → spShare C S p g = 0 := fun h0 h1 => by rw [share_lock hI.2.2.2.1 hI.2.2.2.2 hp (by omega) h0, if_neg h1]
    refine tg (fun _ _ k => ev_go (pc' := 24) (ls' := [some (vR (some 1)), some (vI ((S.length : Nat) : Int)), some (vR (some 191)), some (vI 1), some (vI ((p : Nat) : Int)), some (vI (shS C S p g)), some (vI ((g : Nat) : Int)), z7]) (st' := [vI 5, vI ((g : Nat) : Int)]) (h1 := HS t m) 2 (by rfl) k) ?_
    refine tg (fun _ _ k => ev_ic3 rfl (inI_of (by omega) (by omega)) rfl (fun c24 => absurd c24 (by omega)) (fun c24 => k)) ?_
    refine tg (fun _ _ k => ev_go (pc' := 28) (ls' := [some (vR (some 1)), some (vI ((S.length : Nat) : Int)), some (vR (some 191)), some (vI 1), some (vI ((p : Nat) : Int)), some (vI (shS C S p g)), some (vI ((g : Nat) : Int)), z7]) (st' := [vI 1]) (h1 := HS t m) 1 (by rfl) k) ?_
    refine tg (fun _ _ k => ev_if0 rfl rfl (fun c28 => absurd c28 (by decide)) (fun c28 => k)) ?_
    refine tg (fun _ _ k => ev_go (pc' := 38) (ls' := [some (vR (some 1)), some (vI ((S.length : Nat) : Int)), some (vR (some 191)), some (vI 1), some (vI ((p : Nat) : Int)), some (vI (shS C S p g)), some (vI ((g : Nat) : Int)), z7]) (st' := [vI ((g : Nat) : Int), vI ((p : Nat) : Int), vI 10, vR (some 1)]) (h1 := HS t m) 4 (by rfl) k) ?_
    obtain ⟨m', hE, hkp⟩ := q_share (L := L) (xs := xs) (t := t) (d := 9) hI hp (g := g) (by omega) (by omega)
    have hga : m' 191 p = (gs S p).2 := GA_hi (Kp_hi hkp) hG p hp
    refine tg (fun _ _ k => ev_call rfl rfl (Nat.le_of_ble_eq_true rfl) hE ⟨Nat.le_refl _, Nat.le_refl _⟩ k) ?_
    show Tg L xs _ 95 41 [some (vR (some 1)), some (vI ((S.length : Nat) : Int)), some (vR (some 191)), some (vI 1), some (vI ((p : Nat) : Int)), some (vI (shS C S p g)), some (vI ((g : Nat) : Int)), z7] [vI (spShare C S p g)] (HS t m') _
    refine tg (fun _ _ k => ev_go (pc' := 52) (ls' := [some (vR (some 1)), some (vI ((S.length : Nat) : Int)), some (vR (some 191)), some (vI 1), some (vI ((p : Nat) : Int)), some (vI ((shS C S p g) + (spShare C S p g))), some (vI ((g : Nat) : Int)), some (vI (spShare C S p g))]) (st' := [vI (spShare C S p g)]) (h1 := HS t m') 6 (by rfl) k) ?_
    refine tg (fun _ _ k => ev_if2 rfl (inI_of (by omega) (by omega)) (fun c52 => absurd c52 (by omega)) (fun c52 => k)) ?_
    refine tg (fun _ _ k => ev_go (pc' := 60) (ls' := [some (vR (some 1)), some (vI ((S.length : Nat) : Int)), some (vR (some 191)), some (vI 1), some (vI ((p : Nat) : Int)), some (vI ((shS C S p g) + (spShare C S p g))), some (vI ((g : Nat) : Int)), some (vI (spShare C S p g))]) (st' := [vI 1000, vI (spShare C S p g)]) (h1 := HS t m') 2 (by rfl) k) ?_
    refine tg (fun _ _ k => ev_ic4 rfl (inI_of (by omega) (by omega)) rfl (fun c60 => absurd c60 (by omega)) (fun c60 => k)) ?_
    refine tg (fun _ _ k => ev_go (pc' := 66) (ls' := [some (vR (some 1)), some (vI ((S.length : Nat) : Int)), some (vR (some 191)), some (vI 1), some (vI ((p : Nat) : Int)), some (vI ((shS C S p g) + (spShare C S p g))), some (vI ((g : Nat) : Int)), some (vI (spShare C S p g))]) (st' := [vI ((p : Nat) : Int), vR (some 191)]) (h1 := HS t m') 2 (by rfl) k) ?_
    refine tg (fun _ _ k => ev_ialdv (k := p) (v := ((gs S p).2)) rfl rfl rfl (by omega) (hga) k) ?_
    by_cases c67 : ((gs S p).2) < 0
    · refine tg (fun _ _ k => ev_if2 rfl (inI_of (by omega) (by omega)) (fun _ => k) (fun z => absurd c67 (by omega))) ?_
      refine tg (fun _ _ k => ev_go (pc' := 21) (ls' := [some (vR (some 1)), some (vI ((S.length : Nat) : Int)), some (vR (some 191)), some (vI 1), some (vI ((p : Nat) : Int)), some (vI ((shS C S p g) + (spShare C S p g))), some (vI ((g + 1 : Nat) : Int)), some (vI (spShare C S p g))]) (st' := []) (h1 := HS t m') 5 (by rfl) k) ?_
      exact IH (g + 1) _ m' (by omega) (IV_kp hI hkp) (GA_hi (Kp_hi hkp) hG) (fun m2 h2 z2 => K m2 (Kp_tr hkp h2) z2)
    · refine tg (fun _ _ k => ev_if2 rfl (inI_of (by omega) (by omega)) (fun z => absurd z c67) (fun _ => k)) ?_
      refine tg (fun _ _ k => ev_go (pc' := 75) (ls' := [some (vR (some 1)), some (vI ((S.length : Nat) : Int)), some (vR (some 191)), some (vI 1), some (vI ((p : Nat) : Int)), some (vI ((shS C S p g) + (spShare C S p g))), some (vI ((g : Nat) : Int)), some (vI (spShare C S p g))]) (st' := [vI ((p : Nat) : Int), vR (some 191), vI (spShare C S p g)]) (h1 := HS t m') 3 (by rfl) k) ?_
      refine tg (fun _ _ k => ev_ialdv (k := p) (v := ((gs S p).2)) rfl rfl rfl (by omega) (hga) k) ?_
      refine tg (fun _ _ k => ev_go (pc' := 78) (ls' := [some (vR (some 1)), some (vI ((S.length : Nat) : Int)), some (vR (some 191)), some (vI 1), some (vI ((p : Nat) : Int)), some (vI ((shS C S p g) + (spShare C S p g))), some (vI ((g : Nat) : Int)), some (vI (spShare C S p g))]) (st' := [vI ((g : Nat) : Int), vI ((gs S p).2), vI (spShare C S p g)]) (h1 := HS t m') 1 (by rfl) k) ?_
      by_cases c78 : ¬ ((gs S p).2) = ((g : Nat) : Int)
      · refine tg (fun _ _ k => ev_ic1 rfl (inI_of (by omega) (by omega)) (inI_of (by omega) (by omega)) (fun _ => k) (fun z => absurd c78 (by omega))) ?_
        refine tg (fun _ _ k => ev_go (pc' := 88) (ls' := [some (vR (some 1)), some (vI ((S.length : Nat) : Int)), some (vR (some 191)), some (vI 1), some (vI ((p : Nat) : Int)), some (vI ((shS C S p g) + (spShare C S p g))), some (vI ((g : Nat) : Int)), some (vI (spShare C S p g))]) (st' := [vI 0, vI (spShare C S p g)]) (h1 := HS t m') 1 (by rfl) k) ?_
        refine tg (fun _ _ k => ev_ic1 rfl (inI_of (by omega) (by omega)) rfl (fun c88 => absurd c88 (fun h => h (hs0 (by omega) (by omega)))) (fun c88 => k)) ?_
        refine tg (fun _ _ k => ev_go (pc' := 21) (ls' := [some (vR (some 1)), some (vI ((S.length : Nat) : Int)), some (vR (some 191)), some (vI 1), some (vI ((p : Nat) : Int)), some (vI ((shS C S p g) + (spShare C S p g))), some (vI ((g + 1 : Nat) : Int)), some (vI (spShare C S p g))]) (st' := []) (h1 := HS t m') 5 (by rfl) k) ?_
        exact IH (g + 1) _ m' (by omega) (IV_kp hI hkp) (GA_hi (Kp_hi hkp) hG) (fun m2 h2 z2 => K m2 (Kp_tr hkp h2) z2)
      · refine tg (fun _ _ k => ev_ic1 rfl (inI_of (by omega) (by omega)) (inI_of (by omega) (by omega)) (fun z => absurd z c78) (fun _ => k)) ?_
        refine tg (fun _ _ k => ev_go (pc' := 88) (ls' := [some (vR (some 1)), some (vI ((S.length : Nat) : Int)), some (vR (some 191)), some (vI 1), some (vI ((p : Nat) : Int)), some (vI ((shS C S p g) + (spShare C S p g))), some (vI ((g : Nat) : Int)), some (vI (spShare C S p g))]) (st' := [vI 1000, vI (spShare C S p g)]) (h1 := HS t m') 2 (by rfl) k) ?_
        refine tg (fun _ _ k => ev_ic1 rfl (inI_of (by omega) (by omega)) rfl (fun c88 => absurd c88 (fun h => h (hs1 (by omega) (by omega)))) (fun c88 => k)) ?_
        refine tg (fun _ _ k => ev_go (pc' := 21) (ls' := [some (vR (some 1)), some (vI ((S.length : Nat) : Int)), some (vR (some 191)), some (vI 1), some (vI ((p : Nat) : Int)), some (vI ((shS C S p g) + (spShare C S p g))), some (vI ((g + 1 : Nat) : Int)), some (vI (spShare C S p g))]) (st' := []) (h1 := HS t m') 5 (by rfl) k) ?_
        exact IH (g + 1) _ m' (by omega) (IV_kp hI hkp) (GA_hi (Kp_hi hkp) hG) (fun m2 h2 z2 => K m2 (Kp_tr hkp h2) z2)
set_option maxRecDepth 10000 in
theorem l_sh_out {L : Nat} {xs : Nat → Int32} {t : Bool × Nat × Nat} {w : Int} {k : Nat} {C : List Tx} {D : List (Int × Nat)} {S : List (Int × Int)} {Q : Option mMV ⊕ Nat → mMH → Prop} : ∀ (c p : Nat) (z5 z6 z7 : Option mMV) (m : mMM), p + c = S.length → IV m w k C D S → GA m S → (∀ m', Kp m m' → ∀ z5 z6 z7, Tg L xs 12 95 135 [some (vR (some 1)), some (vI ((S.length : Nat) : Int)), some (vR (some 191)), some (vI 1), some (vI ((S.length : Nat) : Int)), z5, z6, z7] [] (HS t m') Q) → Tg L xs 12 95 5 [some (vR (some 1)), some (vI ((S.length : Nat) : Int)), some (vR (some 191)), some (vI 1), some (vI ((p : Nat) : Int)), z5, z6, z7] [] (HS t m) Q := by
  intro c
  induction c with
  | zero =>
    intro p z5 z6 z7 m hc hI hG K
    have hp5 : p = S.length := by omega
    subst hp5
    have h5 := hI.1.2.2.1.2.1
    refine tg (fun _ _ k => ev_go (pc' := 8) (ls' := [some (vR (some 1)), some (vI ((S.length : Nat) : Int)), some (vR (some 191)), some (vI 1), some (vI ((S.length : Nat) : Int)), z5, z6, z7]) (st' := [vI ((S.length : Nat) : Int), vI ((S.length : Nat) : Int)]) (h1 := HS t m) 2 (by rfl) k) ?_
    refine tg (fun _ _ k => ev_ic3 rfl (inI_of (by omega) (by omega)) (inI_of (by omega) (by omega)) (fun c8 => k) (fun c8 => absurd c8 (by omega))) ?_
    exact K m (Kp_self hI.1.2.2.2) _ _ _
  | succ c IH =>
    intro p z5 z6 z7 m hc hI hG K
    have h5 := hI.1.2.2.1.2.1
    have hp : p < S.length := by omega
    have hsum := share_sum hI.2.2.2.1 hI.2.2.2.2 h5 p
    refine tg (fun _ _ k => ev_go (pc' := 8) (ls' := [some (vR (some 1)), some (vI ((S.length : Nat) : Int)), some (vR (some 191)), some (vI 1), some (vI ((p : Nat) : Int)), z5, z6, z7]) (st' := [vI ((S.length : Nat) : Int), vI ((p : Nat) : Int)]) (h1 := HS t m) 2 (by rfl) k) ?_
    refine tg (fun _ _ k => ev_ic3 rfl (inI_of (by omega) (by omega)) (inI_of (by omega) (by omega)) (fun c8 => absurd c8 (by omega)) (fun c8 => k)) ?_
    refine tg (fun _ _ k => ev_go (pc' := 12) (ls' := [some (vR (some 1)), some (vI ((S.length : Nat) : Int)), some (vR (some 191)), some (vI 1), some (vI ((p : Nat) : Int)), z5, z6, z7]) (st' := [vI 1]) (h1 := HS t m) 1 (by rfl) k) ?_
    refine tg (fun _ _ k => ev_if0 rfl rfl (fun c12 => absurd c12 (by decide)) (fun c12 => k)) ?_
    refine tg (fun _ _ k => ev_go (pc' := 21) (ls' := [some (vR (some 1)), some (vI ((S.length : Nat) : Int)), some (vR (some 191)), some (vI 1), some (vI ((p : Nat) : Int)), some (vI 0), some (vI 0), z7]) (st' := []) (h1 := HS t m) 4 (by rfl) k) ?_
    refine l_sh_in hp 5 0 _ m (by omega) hI hG (fun m' hkp z7 => ?_)
    refine tg (fun _ _ k => ev_go (pc' := 104) (ls' := [some (vR (some 1)), some (vI ((S.length : Nat) : Int)), some (vR (some 191)), some (vI 1), some (vI ((p : Nat) : Int)), some (vI (shS C S p 5)), some (vI ((5 : Nat) : Int)), z7]) (st' := [vI 1]) (h1 := HS t m') 1 (by rfl) k) ?_
    refine tg (fun _ _ k => ev_if0 rfl rfl (fun c104 => absurd c104 (by decide)) (fun c104 => k)) ?_
    refine tg (fun _ _ k => ev_go (pc' := 112) (ls' := [some (vR (some 1)), some (vI ((S.length : Nat) : Int)), some (vR (some 191)), some (vI 1), some (vI ((p : Nat) : Int)), some (vI (shS C S p 5)), some (vI ((5 : Nat) : Int)), z7]) (st' := [vI 995, vI (shS C S p 5)]) (h1 := HS t m') 2 (by rfl) k) ?_
    refine tg (fun _ _ k => ev_ic5 rfl (inI_of (by omega) (by omega)) rfl (fun c112 => absurd c112 (by omega)) (fun c112 => k)) ?_
    refine tg (fun _ _ k => ev_go (pc' := 120) (ls' := [some (vR (some 1)), some (vI ((S.length : Nat) : Int)), some (vR (some 191)), some (vI 1), some (vI ((p : Nat) : Int)), some (vI (shS C S p 5)), some (vI ((5 : Nat) : Int)), z7]) (st' := [vI 1000, vI (shS C S p 5)]) (h1 := HS t m') 2 (by rfl) k) ?_
    refine tg (fun _ _ k => ev_ic4 rfl (inI_of (by omega) (by omega)) rfl (fun c120 => absurd c120 (by omega)) (fun c120 => k)) ?_
    refine tg (fun _ _ k => ev_go (pc' := 5) (ls' := [some (vR (some 1)), some (vI ((S.length : Nat) : Int)), some (vR (some 191)), some (vI 1), some (vI ((p + 1 : Nat) : Int)), some (vI (shS C S p 5)), some (vI ((5 : Nat) : Int)), z7]) (st' := []) (h1 := HS t m') 5 (by rfl) k) ?_
    exact IH (p + 1) _ _ _ m' (by omega) (IV_kp hI hkp) (GA_hi (Kp_hi hkp) hG) (fun m2 h2 y5 y6 y7 => K m2 (Kp_tr hkp h2) y5 y6 y7)
set_option maxRecDepth 10000 in
theorem c_areShares {L : Nat} {xs : Nat → Int32} {t : Bool × Nat × Nat} {m : mMM} {w : Int} {k : Nat} {C : List Tx} {D : List (Int × Nat)} {S : List (Int × Int)} (hI : IV m w k C D S) (hG : GA m S) : ∃ m' : mMM, Ev (PP L xs) 12 95 0 (entL 8 [vR (some 1), vI ((S.length : Nat) : Int), vR (some 191)]) [] (HS t m) (.inl (some (vI 1))) (HS t m') ∧ Kp m m' := by
  have h : Tg L xs 12 95 0 (entL 8 [vR (some 1), vI ((S.length : Nat) : Int), vR (some 191)]) [] (HS t m) (fun o h' => o = .inl (some (vI 1)) ∧ ∃ m', h' = HS t m' ∧ Kp m m') := by
    refine tg (fun _ _ k => ev_go (pc' := 5) (ls' := [some (vR (some 1)), some (vI ((S.length : Nat) : Int)), some (vR (some 191)), some (vI 1), some (vI 0), none, none, none]) (st' := []) (h1 := HS t m) 4 (by rfl) k) ?_
    refine l_sh_out S.length 0 _ _ _ m (by omega) hI hG (fun m' hkp z5 z6 z7 => ?_)
    refine tg (fun _ _ k => ev_go (pc' := 136) (ls' := [some (vR (some 1)), some (vI ((S.length : Nat) : Int)), some (vR (some 191)), some (vI 1), some (vI ((S.length : Nat) : Int)), z5, z6, z7]) (st' := [vI 1]) (h1 := HS t m') 1 (by rfl) k) ?_
    exact ⟨_, _, ev_zret rfl (Or.inr rfl) rfl, rfl, m', rfl, hkp⟩
  obtain ⟨o, h', hE, rfl, m', rfl, hkp⟩ := h
  exact ⟨m', hE, hkp⟩
