/-! ===== areRanks ===== -/
def WA (m : mMM) (C : List Tx) (S : List (Int × Int)) : Prop := ∀ p, p < S.length → ∀ e, e < 5 → m 190 (5 * p + e) = woW C (gs S p).1 e
theorem WA_hi {m m' : mMM} {C : List Tx} {S : List (Int × Int)} (h : Hi m m') (hg : WA m C S) : WA m' C S := fun p hp e he => by rw [h 190 _ (by decide)]; exact hg p hp e he
theorem cmp_self (v : Int) : (if v < v then -1 else if v = v then 0 else 1 : Int) = 0 := by rw [if_neg (Int.lt_irrefl v), if_pos rfl]
theorem wt_in {C : List Tx} (hC : VC C) (S : List (Int × Int)) {k : Nat} (hk : k ≤ 5) (q : Nat) : inJ (wt (sA0 C S) (sAA C S) k q) = true := by
  have h := wt_bd5 (AB_s hC S) hk q
  exact inJ_of (by omega) (by omega)
theorem prod_in {C : List Tx} (hC : VC C) {S : List (Int × Int)} (h5 : S.length ≤ 5) (r : Nat) : inJ (spProd C S r) = true := by
  have h := spProd_bd hC h5 r
  exact inJ_of (by omega) (by omega)
theorem rk_step2 {C : List Tx} (hC : VC C) (S : List (Int × Int)) {n q p : Nat} (hp : p < n) (h : 0 < wt (sA0 C S) (sAA C S) n q) :
    0 < wt (sA0 C S) (sAA C S) (p + 1) (q / 5 ^ (n - (p + 1))) ∧
    wt (sA0 C S) (sAA C S) (p + 1) (q / 5 ^ (n - (p + 1))) = wt (sA0 C S) (sAA C S) p (q / 5 ^ (n - p)) * woW C (gs S p).1 (q / 5 ^ (n - (p + 1)) % 5) * (if p = 0 then mn7 (sC (fsN (q / 5 ^ (n - (p + 1)) % 5)) C) else mn7 (sC (prN (q / 5 ^ (n - p) % 5) (q / 5 ^ (n - (p + 1)) % 5)) C)) ∧
    ((gs S p).2 = -1 ∨ (gs S p).2 = ((q / 5 ^ (n - (p + 1)) % 5 : Nat) : Int)) := by
  have e : n - (p + 1) = n - 1 - p := by omega
  rw [e]; exact rk_step hC S hp h
/-- the answer of step ahead of the place p -/
theorem q_step9 {L : Nat} {xs : Nat → Int32} {t : Bool × Nat × Nat} {m : mMM} {w : Int} {k : Nat} {C : List Tx} {D : List (Int × Nat)} {S : List (Int × Int)} (hI : IV m w k C D S) {p f g : Nat} {bf : Int} (hbf : (p = 0 ∧ bf = -1) ∨ (0 < p ∧ bf = ((f : Nat) : Int) ∧ f < 5)) (hg : g < 5) : Ev (PP L xs) 11 92 0 (entL 5 [vR (some 1), vI 7, vI bf, vI ((g : Nat) : Int)]) [] (HS t m) (.inl (some (vI (if p = 0 then mn7 (sC (fsN g) C) else mn7 (sC (prN f g) C))))) (HS t m) := by
  rcases hbf with ⟨rfl, rfl⟩ | ⟨h0, rfl, hf⟩
  · rw [if_pos rfl]; exact q_stepN hI hg (by omega)
  · rw [if_neg (by omega)]; exact q_stepG hI hf hg (by omega)
set_option maxRecDepth 10000 in
theorem l_rk_in {L : Nat} {xs : Nat → Int32} {t : Bool × Nat × Nat} {w : Int} {k : Nat} {C : List Tx} {D : List (Int × Nat)} {S : List (Int × Int)} {Q : Option mMV ⊕ Nat → mMH → Prop} {r q fr kk : Nat} {la : Int} (hC : VC C) (h5 : S.length ≤ 5) (hr : r < 10) (hk : r < (LST C S).length) (e : gl (LST C S) r = pw (sA0 C S) (sAA C S) S.length q) (hpos : 0 < wt (sA0 C S) (sAA C S) S.length q) : ∀ (c p : Nat) (bf du : Int) (z16 : Option mMV) (m : mMM), p + c = S.length → IV m w k C D S → GA m S → WA m C S → ((p = 0 ∧ bf = -1) ∨ (0 < p ∧ bf = ((q / 5 ^ (S.length - p) % 5 : Nat) : Int) ∧ q / 5 ^ (S.length - p) % 5 < 5)) → du = wt (sA0 C S) (sAA C S) p (q / 5 ^ (S.length - p)) → 0 < du → (∀ m', Kp m m' → ∀ (bf p9 du : Int) (z16 : Option mMV), du = spProd C S r → Tg L xs 12 94 151 [some (vR (some 1)), some (vI ((S.length : Nat) : Int)), some (vR (some 190)), some (vR (some 191)), some (vI ((fr : Nat) : Int)), some (vI 1), some (vJ la), none, some (vI ((kk : Nat) : Int)), some (vI ((r : Nat) : Int)), some (vJ (spProd C S r)), none, some (vJ du), none, some (vI bf), some (vI p9), z16] [] (HS t m') Q) → Tg L xs 12 94 64 [some (vR (some 1)), some (vI ((S.length : Nat) : Int)), some (vR (some 190)), some (vR (some 191)), some (vI ((fr : Nat) : Int)), some (vI 1), some (vJ la), none, some (vI ((kk : Nat) : Int)), some (vI ((r : Nat) : Int)), some (vJ (spProd C S r)), none, some (vJ du), none, some (vI bf), some (vI ((p : Nat) : Int)), z16] [] (HS t m) Q := by
  intro c
  induction c with
  | zero =>
    intro p bf du z16 m hc hI hG hW hbf hdu h0 K
    have hpn : p = S.length := by omega
    subst hpn
    rw [Nat.sub_self, Nat.pow_zero, Nat.div_one] at hdu
    refine tg (fun _ _ k => ev_go (pc' := 67) (ls' := [some (vR (some 1)), some (vI ((S.length : Nat) : Int)), some (vR (some 190)), some (vR (some 191)), some (vI ((fr : Nat) : Int)), some (vI 1), some (vJ la), none, some (vI ((kk : Nat) : Int)), some (vI ((r : Nat) : Int)), some (vJ (spProd C S r)), none, some (vJ du), none, some (vI bf), some (vI ((S.length : Nat) : Int)), z16]) (st' := [vI ((S.length : Nat) : Int), vI ((S.length : Nat) : Int)]) (h1 := HS t m) 2 (by rfl) k) ?_
    refine tg (fun _ _ k => ev_ic3 rfl (inI_of (by omega) (by omega)) (inI_of (by omega) (by omega)) (fun c67 => k) (fun c67 => absurd c67 (by omega))) ?_
    exact K m (Kp_self hI.1.2.2.2) _ _ _ _ (by rw [hdu]; exact (prod_at hk e).symm)
  | succ c IH =>
    intro p bf du z16 m hc hI hG hW hbf hdu h0 K
    have hp : p < S.length := by omega
    have hst := rk_step2 hC S hp hpos
    obtain ⟨g, hgd⟩ : ∃ g : Nat, g = q / 5 ^ (S.length - (p + 1)) % 5 := ⟨_, rfl⟩
    have hg : g < 5 := by rw [hgd]; exact Nat.mod_lt _ (by decide)
    rw [← hgd] at hst
    obtain ⟨s9, hs9d⟩ : ∃ s : Int, s = (if p = 0 then mn7 (sC (fsN g) C) else mn7 (sC (prN (q / 5 ^ (S.length - p) % 5) g) C)) := ⟨_, rfl⟩
    rw [← hs9d] at hst
    have hs9 : 1 ≤ s9 ∧ s9 ≤ 7 := by
      rw [hs9d]; split
      · exact mn7_bd (fs_bd hC _).1
      · exact mn7_bd (pr_bd hC _ _).1
    obtain ⟨hst1, hst2, hlock⟩ := hst
    obtain ⟨v9, hv9, hv1, hv2, -⟩ := woW_nat C hC (gs S p).1 g
    have hvs := hI.2.2.2.2 _ (gs_mem hp)
    have hduJ : inJ du = true := by rw [hdu]; exact wt_in hC S (by omega) _
    refine tg (fun _ _ k => ev_go (pc' := 67) (ls' := [some (vR (some 1)), some (vI ((S.length : Nat) : Int)), some (vR (some 190)), some (vR (some 191)), some (vI ((fr : Nat) : Int)), some (vI 1), some (vJ la), none, some (vI ((kk : Nat) : Int)), some (vI ((r : Nat) : Int)), some (vJ (spProd C S r)), none, some (vJ du), none, some (vI bf), some (vI ((p : Nat) : Int)), z16]) (st' := [vI ((S.length : Nat) : Int), vI ((p : Nat) : Int)]) (h1 := HS t m) 2 (by rfl) k) ?_
    refine tg (fun _ _ k => ev_ic3 rfl (inI_of (by omega) (by omega)) (inI_of (by omega) (by omega)) (fun c67 => absurd c67 (by omega)) (fun c67 => k)) ?_
    refine tg (fun _ _ k => ev_go (pc' := 73) (ls' := [some (vR (some 1)), some (vI ((S.length : Nat) : Int)), some (vR (some 190)), some (vR (some 191)), some (vI ((fr : Nat) : Int)), some (vI 1), some (vJ la), none, some (vI ((kk : Nat) : Int)), some (vI ((r : Nat) : Int)), some (vJ (spProd C S r)), none, some (vJ du), none, some (vI bf), some (vI ((p : Nat) : Int)), z16]) (st' := [vJ 0, vJ du]) (h1 := HS t m) 2 (by rfl) k) ?_
    refine tg (fun _ _ k => ev_lcmp rfl hduJ rfl k) ?_
    refine tg (fun _ _ k => ev_if5 rfl (cmp_in _ _) (fun c74 => absurd c74 (fun h => absurd (cz_le h) (by omega))) (fun c74 => k)) ?_
    refine tg (fun _ _ k => ev_go (pc' := 84) (ls' := [some (vR (some 1)), some (vI ((S.length : Nat) : Int)), some (vR (some 190)), some (vR (some 191)), some (vI ((fr : Nat) : Int)), some (vI 1), some (vJ la), none, some (vI ((kk : Nat) : Int)), some (vI ((r : Nat) : Int)), some (vJ (spProd C S r)), none, some (vJ du), none, some (vI bf), some (vI ((p : Nat) : Int)), z16]) (st' := [vI ((p : Nat) : Int), vI ((r : Nat) : Int), vI 8, vR (some 1)]) (h1 := HS t m) 4 (by rfl) k) ?_
    obtain ⟨m1, hE, hkp⟩ := q_path (L := L) (xs := xs) (t := t) (d := 9) hI hr hp (by omega)
    rw [path_tag hk hp e, show S.length - 1 - p = S.length - (p + 1) by omega, ← hgd] at hE
    have hga : m1 191 p = (gs S p).2 := GA_hi (Kp_hi hkp) hG p hp
    have hwa : m1 190 (5 * p + g) = woW C (gs S p).1 g := WA_hi (Kp_hi hkp) hW p hp g hg
    have hs9E := q_step9 (L := L) (xs := xs) (t := t) (IV_kp hI hkp) (p := p) (f := q / 5 ^ (S.length - p) % 5) hbf hg
    rw [← hs9d] at hs9E
    refine tg (fun _ _ k => ev_call rfl rfl (Nat.le_of_ble_eq_true rfl) hE ⟨Nat.le_refl _, Nat.le_refl _⟩ k) ?_
    show Tg L xs _ 94 87 [some (vR (some 1)), some (vI ((S.length : Nat) : Int)), some (vR (some 190)), some (vR (some 191)), some (vI ((fr : Nat) : Int)), some (vI 1), some (vJ la), none, some (vI ((kk : Nat) : Int)), some (vI ((r : Nat) : Int)), some (vJ (spProd C S r)), none, some (vJ du), none, some (vI bf), some (vI ((p : Nat) : Int)), z16] [vI ((g : Nat) : Int)] (HS t m1) _
    refine tg (fun _ _ k => ev_go (pc' := 91) (ls' := [some (vR (some 1)), some (vI ((S.length : Nat) : Int)), some (vR (some 190)), some (vR (some 191)), some (vI ((fr : Nat) : Int)), some (vI 1), some (vJ la), none, some (vI ((kk : Nat) : Int)), some (vI ((r : Nat) : Int)), some (vJ (spProd C S r)), none, some (vJ du), none, some (vI bf), some (vI ((p : Nat) : Int)), some (vI ((g : Nat) : Int))]) (st' := [vI ((g : Nat) : Int)]) (h1 := HS t m1) 2 (by rfl) k) ?_
    refine tg (fun _ _ k => ev_if2 rfl (inI_of (by omega) (by omega)) (fun c91 => absurd c91 (by omega)) (fun c91 => k)) ?_
    refine tg (fun _ _ k => ev_go (pc' := 97) (ls' := [some (vR (some 1)), some (vI ((S.length : Nat) : Int)), some (vR (some 190)), some (vR (some 191)), some (vI ((fr : Nat) : Int)), some (vI 1), some (vJ la), none, some (vI ((kk : Nat) : Int)), some (vI ((r : Nat) : Int)), some (vJ (spProd C S r)), none, some (vJ du), none, some (vI bf), some (vI ((p : Nat) : Int)), some (vI ((g : Nat) : Int))]) (st' := [vI ((p : Nat) : Int), vR (some 191)]) (h1 := HS t m1) 2 (by rfl) k) ?_
    refine tg (fun _ _ k => ev_ialdv (k := p) (v := ((gs S p).2)) rfl rfl rfl (by omega) (hga) k) ?_
    by_cases c98 : ((gs S p).2) < 0
    · refine tg (fun _ _ k => ev_if2 rfl (inI_of (by omega) (by omega)) (fun _ => k) (fun z => absurd c98 (by omega))) ?_
      refine tg (fun _ _ k => ev_go (pc' := 124) (ls' := [some (vR (some 1)), some (vI ((S.length : Nat) : Int)), some (vR (some 190)), some (vR (some 191)), some (vI ((fr : Nat) : Int)), some (vI 1), some (vJ la), none, some (vI ((kk : Nat) : Int)), some (vI ((r : Nat) : Int)), some (vJ (spProd C S r)), none, some (vJ du), none, some (vI bf), some (vI ((p : Nat) : Int)), some (vI ((g : Nat) : Int))]) (st' := [vI ((5 * p + g : Nat) : Int), vR (some 190), vJ du]) (h1 := HS t m1) 7 (by rfl) k) ?_
      refine tg (fun _ _ k => ev_ialdv (k := (5 * p + g)) (v := (woW C (gs S p).1 g)) rfl rfl rfl (by omega) (hwa) k) ?_
      refine tg (fun _ _ k => ev_i2l rfl (inI_of (by omega) (by omega)) k) ?_
      refine tg (fun _ _ k => ev_go (pc' := 134) (ls' := [some (vR (some 1)), some (vI ((S.length : Nat) : Int)), some (vR (some 190)), some (vR (some 191)), some (vI ((fr : Nat) : Int)), some (vI 1), some (vJ la), none, some (vI ((kk : Nat) : Int)), some (vI ((r : Nat) : Int)), some (vJ (spProd C S r)), none, some (vJ du), none, some (vI bf), some (vI ((p : Nat) : Int)), some (vI ((g : Nat) : Int))]) (st' := [vI ((g : Nat) : Int), vI bf, vI 7, vR (some 1), vJ (du * (woW C (gs S p).1 g))]) (h1 := HS t m1) 5 (by rfl) k) ?_
      refine tg (fun _ _ k => ev_call rfl rfl (Nat.le_of_ble_eq_true rfl) hs9E ⟨Nat.le_refl _, Nat.le_refl _⟩ k) ?_
      show Tg L xs _ 94 137 [some (vR (some 1)), some (vI ((S.length : Nat) : Int)), some (vR (some 190)), some (vR (some 191)), some (vI ((fr : Nat) : Int)), some (vI 1), some (vJ la), none, some (vI ((kk : Nat) : Int)), some (vI ((r : Nat) : Int)), some (vJ (spProd C S r)), none, some (vJ du), none, some (vI bf), some (vI ((p : Nat) : Int)), some (vI ((g : Nat) : Int))] [vI s9, vJ (du * (woW C (gs S p).1 g))] (HS t m1) _
      refine tg (fun _ _ k => ev_i2l rfl (inI_of (by omega) (by omega)) k) ?_
      refine tg (fun _ _ k => ev_go (pc' := 64) (ls' := [some (vR (some 1)), some (vI ((S.length : Nat) : Int)), some (vR (some 190)), some (vR (some 191)), some (vI ((fr : Nat) : Int)), some (vI 1), some (vJ la), none, some (vI ((kk : Nat) : Int)), some (vI ((r : Nat) : Int)), some (vJ (spProd C S r)), none, some (vJ ((du * (woW C (gs S p).1 g)) * s9)), none, some (vI ((g : Nat) : Int)), some (vI ((p + 1 : Nat) : Int)), some (vI ((g : Nat) : Int))]) (st' := []) (h1 := HS t m1) 6 (by rfl) k) ?_
      exact IH (p + 1) _ _ _ m1 (by omega) (IV_kp hI hkp) (GA_hi (Kp_hi hkp) hG) (WA_hi (Kp_hi hkp) hW) (Or.inr ⟨by omega, by rw [hgd], Nat.mod_lt _ (by decide)⟩) (by rw [hdu]; exact hst2.symm) (by rw [hdu, ← hst2]; exact hst1) (fun m2 h2 => K m2 (Kp_tr hkp h2))
    · refine tg (fun _ _ k => ev_if2 rfl (inI_of (by omega) (by omega)) (fun z => absurd z c98) (fun _ => k)) ?_
      refine tg (fun _ _ k => ev_go (pc' := 104) (ls' := [some (vR (some 1)), some (vI ((S.length : Nat) : Int)), some (vR (some 190)), some (vR (some 191)), some (vI ((fr : Nat) : Int)), some (vI 1), some (vJ la), none, some (vI ((kk : Nat) : Int)), some (vI ((r : Nat) : Int)), some (vJ (spProd C S r)), none, some (vJ du), none, some (vI bf), some (vI ((p : Nat) : Int)), some (vI ((g : Nat) : Int))]) (st' := [vI ((p : Nat) : Int), vR (some 191)]) (h1 := HS t m1) 2 (by rfl) k) ?_
      refine tg (fun _ _ k => ev_ialdv (k := p) (v := ((gs S p).2)) rfl rfl rfl (by omega) (hga) k) ?_
      refine tg (fun _ _ k => ev_go (pc' := 107) (ls' := [some (vR (some 1)), some (vI ((S.length : Nat) : Int)), some (vR (some 190)), some (vR (some 191)), some (vI ((fr : Nat) : Int)), some (vI 1), some (vJ la), none, some (vI ((kk : Nat) : Int)), some (vI ((r : Nat) : Int)), some (vJ (spProd C S r)), none, some (vJ du), none, some (vI bf), some (vI ((p : Nat) : Int)), some (vI ((g : Nat) : Int))]) (st' := [vI ((g : Nat) : Int), vI ((gs S p).2)]) (h1 := HS t m1) 1 (by rfl) k) ?_
      refine tg (fun _ _ k => ev_ic0 rfl (inI_of (by omega) (by omega)) (inI_of (by omega) (by omega)) (fun c107 => k) (fun c107 => absurd c107 (by omega))) ?_
      refine tg (fun _ _ k => ev_go (pc' := 124) (ls' := [some (vR (some 1)), some (vI ((S.length : Nat) : Int)), some (vR (some 190)), some (vR (some 191)), some (vI ((fr : Nat) : Int)), some (vI 1), some (vJ la), none, some (vI ((kk : Nat) : Int)), some (vI ((r : Nat) : Int)), some (vJ (spProd C S r)), none, some (vJ du), none, some (vI bf), some (vI ((p : Nat) : Int)), some (vI ((g : Nat) : Int))]) (st' := [vI ((5 * p + g : Nat) : Int), vR (some 190), vJ du]) (h1 := HS t m1) 7 (by rfl) k) ?_
      refine tg (fun _ _ k => ev_ialdv (k := (5 * p + g)) (v := (woW C (gs S p).1 g)) rfl rfl rfl (by omega) (hwa) k) ?_
      refine tg (fun _ _ k => ev_i2l rfl (inI_of (by omega) (by omega)) k) ?_
      refine tg (fun _ _ k => ev_go (pc' := 134) (ls' := [some (vR (some 1)), some (vI ((S.length : Nat) : Int)), some (vR (some 190)), some (vR (some 191)), some (vI ((fr : Nat) : Int)), some (vI 1), some (vJ la), none, some (vI ((kk : Nat) : Int)), some (vI ((r : Nat) : Int)), some (vJ (spProd C S r)), none, some (vJ du), none, some (vI bf), some (vI ((p : Nat) : Int)), some (vI ((g : Nat) : Int))]) (st' := [vI ((g : Nat) : Int), vI bf, vI 7, vR (some 1), vJ (du * (woW C (gs S p).1 g))]) (h1 := HS t m1) 5 (by rfl) k) ?_
      refine tg (fun _ _ k => ev_call rfl rfl (Nat.le_of_ble_eq_true rfl) hs9E ⟨Nat.le_refl _, Nat.le_refl _⟩ k) ?_
      show Tg L xs _ 94 137 [some (vR (some 1)), some (vI ((S.length : Nat) : Int)), some (vR (some 190)), some (vR (some 191)), some (vI ((fr : Nat) : Int)), some (vI 1), some (vJ la), none, some (vI ((kk : Nat) : Int)), some (vI ((r : Nat) : Int)), some (vJ (spProd C S r)), none, some (vJ du), none, some (vI bf), some (vI ((p : Nat) : Int)), some (vI ((g : Nat) : Int))] [vI s9, vJ (du * (woW C (gs S p).1 g))] (HS t m1) _
      refine tg (fun _ _ k => ev_i2l rfl (inI_of (by omega) (by omega)) k) ?_
      refine tg (fun _ _ k => ev_go (pc' := 64) (ls' := [some (vR (some 1)), some (vI ((S.length : Nat) : Int)), some (vR (some 190)), some (vR (some 191)), some (vI ((fr : Nat) : Int)), some (vI 1), some (vJ la), none, some (vI ((kk : Nat) : Int)), some (vI ((r : Nat) : Int)), some (vJ (spProd C S r)), none, some (vJ ((du * (woW C (gs S p).1 g)) * s9)), none, some (vI ((g : Nat) : Int)), some (vI ((p + 1 : Nat) : Int)), some (vI ((g : Nat) : Int))]) (st' := []) (h1 := HS t m1) 6 (by rfl) k) ?_
      exact IH (p + 1) _ _ _ m1 (by omega) (IV_kp hI hkp) (GA_hi (Kp_hi hkp) hG) (WA_hi (Kp_hi hkp) hW) (Or.inr ⟨by omega, by rw [hgd], Nat.mod_lt _ (by decide)⟩) (by rw [hdu]; exact hst2.symm) (by rw [hdu, ← hst2]; exact hst1) (fun m2 h2 => K m2 (Kp_tr hkp h2))
set_option maxRecDepth 10000 in
theorem l_rk_A {L : Nat} {xs : Nat → Int32} {t : Bool × Nat × Nat} {w : Int} {k : Nat} {C : List Tx} {D : List (Int × Nat)} {S : List (Int × Int)} {Q : Option mMV ⊕ Nat → mMH → Prop} {r fr kk : Nat} {la : Int} {m : mMM} (h5 : S.length ≤ 5) (hr : r < 10) (hk : ¬ r < (LST C S).length) (hI : IV m w k C D S) (h0 : 0 < S.length) {z16 : Option mMV} (K : (∀ m', Kp m m' → ∀ (bf p9 du : Int) (z16 : Option mMV), du = spProd C S r → Tg L xs 12 94 151 [some (vR (some 1)), some (vI ((S.length : Nat) : Int)), some (vR (some 190)), some (vR (some 191)), some (vI ((fr : Nat) : Int)), some (vI 1), some (vJ la), none, some (vI ((kk : Nat) : Int)), some (vI ((r : Nat) : Int)), some (vJ (spProd C S r)), none, some (vJ du), none, some (vI bf), some (vI p9), z16] [] (HS t m') Q)) : Tg L xs 12 94 64 [some (vR (some 1)), some (vI ((S.length : Nat) : Int)), some (vR (some 190)), some (vR (some 191)), some (vI ((fr : Nat) : Int)), some (vI 1), some (vJ la), none, some (vI ((kk : Nat) : Int)), some (vI ((r : Nat) : Int)), some (vJ (spProd C S r)), none, some (vJ 1), none, some (vI (-1)), some (vI 0), z16] [] (HS t m) Q := by
  refine tg (fun _ _ k => ev_go (pc' := 67) (ls' := [some (vR (some 1)), some (vI ((S.length : Nat) : Int)), some (vR (some 190)), some (vR (some 191)), some (vI ((fr : Nat) : Int)), some (vI 1), some (vJ la), none, some (vI ((kk : Nat) : Int)), some (vI ((r : Nat) : Int)), some (vJ (spProd C S r)), none, some (vJ 1), none, some (vI (-1)), some (vI 0), z16]) (st' := [vI ((S.length : Nat) : Int), vI 0]) (h1 := HS t m) 2 (by rfl) k) ?_
  refine tg (fun _ _ k => ev_ic3 rfl rfl (inI_of (by omega) (by omega)) (fun c67 => absurd c67 (by omega)) (fun c67 => k)) ?_
  refine tg (fun _ _ k => ev_go (pc' := 73) (ls' := [some (vR (some 1)), some (vI ((S.length : Nat) : Int)), some (vR (some 190)), some (vR (some 191)), some (vI ((fr : Nat) : Int)), some (vI 1), some (vJ la), none, some (vI ((kk : Nat) : Int)), some (vI ((r : Nat) : Int)), some (vJ (spProd C S r)), none, some (vJ 1), none, some (vI (-1)), some (vI 0), z16]) (st' := [vJ 0, vJ 1]) (h1 := HS t m) 2 (by rfl) k) ?_
  refine tg (fun _ _ k => ev_lcmp rfl rfl rfl k) ?_
  refine tg (fun _ _ k => ev_if5 rfl (cmp_in _ _) (fun c74 => absurd c74 (fun h => absurd (cz_le h) (by omega))) (fun c74 => k)) ?_
  refine tg (fun _ _ k => ev_go (pc' := 84) (ls' := [some (vR (some 1)), some (vI ((S.length : Nat) : Int)), some (vR (some 190)), some (vR (some 191)), some (vI ((fr : Nat) : Int)), some (vI 1), some (vJ la), none, some (vI ((kk : Nat) : Int)), some (vI ((r : Nat) : Int)), some (vJ (spProd C S r)), none, some (vJ 1), none, some (vI (-1)), some (vI 0), z16]) (st' := [vI 0, vI ((r : Nat) : Int), vI 8, vR (some 1)]) (h1 := HS t m) 4 (by rfl) k) ?_
  obtain ⟨m1, hE, hkp⟩ := q_path (L := L) (xs := xs) (t := t) (d := 9) hI hr h0 (by omega)
  rw [show spPath C S r 0 = -1 from if_neg hk] at hE
  refine tg (fun _ _ k => ev_call rfl rfl (Nat.le_of_ble_eq_true rfl) hE ⟨Nat.le_refl _, Nat.le_refl _⟩ k) ?_
  show Tg L xs _ 94 87 [some (vR (some 1)), some (vI ((S.length : Nat) : Int)), some (vR (some 190)), some (vR (some 191)), some (vI ((fr : Nat) : Int)), some (vI 1), some (vJ la), none, some (vI ((kk : Nat) : Int)), some (vI ((r : Nat) : Int)), some (vJ (spProd C S r)), none, some (vJ 1), none, some (vI (-1)), some (vI 0), z16] [vI (-1)] (HS t m1) _
  refine tg (fun _ _ k => ev_go (pc' := 91) (ls' := [some (vR (some 1)), some (vI ((S.length : Nat) : Int)), some (vR (some 190)), some (vR (some 191)), some (vI ((fr : Nat) : Int)), some (vI 1), some (vJ la), none, some (vI ((kk : Nat) : Int)), some (vI ((r : Nat) : Int)), some (vJ (spProd C S r)), none, some (vJ 1), none, some (vI (-1)), some (vI 0), some (vI (-1))]) (st' := [vI (-1)]) (h1 := HS t m1) 2 (by rfl) k) ?_
  refine tg (fun _ _ k => ev_if2 rfl rfl (fun c91 => k) (fun c91 => absurd c91 (by decide))) ?_
  refine tg (fun _ _ k => ev_go (pc' := 67) (ls' := [some (vR (some 1)), some (vI ((S.length : Nat) : Int)), some (vR (some 190)), some (vR (some 191)), some (vI ((fr : Nat) : Int)), some (vI 1), some (vJ la), none, some (vI ((kk : Nat) : Int)), some (vI ((r : Nat) : Int)), some (vJ (spProd C S r)), none, some (vJ 0), none, some (vI (-1)), some (vI 1), some (vI (-1))]) (st' := [vI ((S.length : Nat) : Int), vI 1]) (h1 := HS t m1) 9 (by rfl) k) ?_
  by_cases c67 : ((S.length : Nat) : Int) ≤ 1
  · refine tg (fun _ _ k => ev_ic3 rfl rfl (inI_of (by omega) (by omega)) (fun _ => k) (fun z => absurd c67 (by omega))) ?_
    exact K m1 hkp _ _ _ _ (show (0 : Int) = spProd C S r from (if_neg hk).symm)
  · refine tg (fun _ _ k => ev_ic3 rfl rfl (inI_of (by omega) (by omega)) (fun z => absurd z c67) (fun _ => k)) ?_
    refine tg (fun _ _ k => ev_go (pc' := 73) (ls' := [some (vR (some 1)), some (vI ((S.length : Nat) : Int)), some (vR (some 190)), some (vR (some 191)), some (vI ((fr : Nat) : Int)), some (vI 1), some (vJ la), none, some (vI ((kk : Nat) : Int)), some (vI ((r : Nat) : Int)), some (vJ (spProd C S r)), none, some (vJ 0), none, some (vI (-1)), some (vI 1), some (vI (-1))]) (st' := [vJ 0, vJ 0]) (h1 := HS t m1) 2 (by rfl) k) ?_
    refine tg (fun _ _ k => ev_lcmp rfl rfl rfl k) ?_
    refine tg (fun _ _ k => ev_if5 rfl (cmp_in _ _) (fun c74 => k) (fun c74 => absurd c74 (fun h => absurd (cz_gt h) (by omega)))) ?_
    exact K m1 hkp _ _ _ _ (show (0 : Int) = spProd C S r from (if_neg hk).symm)
set_option maxRecDepth 10000 in
theorem l_rk_body {L : Nat} {xs : Nat → Int32} {t : Bool × Nat × Nat} {w : Int} {k : Nat} {C : List Tx} {D : List (Int × Nat)} {S : List (Int × Int)} {Q : Option mMV ⊕ Nat → mMH → Prop} {r fr kk : Nat} {la : Int} {m : mMM} (hI : IV m w k C D S) (hG : GA m S) (hW : WA m C S) (hr : r < 10) (h0 : 0 < S.length) (hkk : kk < 4) (hlaJ : inJ la = true) (hle : 2 ≤ kk ∨ spProd C S r ≤ la) (hpos : 0 < r ∨ 0 < spProd C S r) {z9 z10 z11 z12 z13 z14 z15 z16 : Option mMV} (K : (∀ m', Kp m m' → ∀ (z9 z10 z11 z12 z13 z14 z15 z16 : Option mMV), Tg L xs 12 94 11 [some (vR (some 1)), some (vI ((S.length : Nat) : Int)), some (vR (some 190)), some (vR (some 191)), some (vI ((fr : Nat) : Int)), some (vI 1), some (vJ (spProd C S r)), none, some (vI ((kk + 1 : Nat) : Int)), z9, z10, z11, z12, z13, z14, z15, z16] [] (HS t m') Q)) : Tg L xs 12 94 45 [some (vR (some 1)), some (vI ((S.length : Nat) : Int)), some (vR (some 190)), some (vR (some 191)), some (vI ((fr : Nat) : Int)), some (vI 1), some (vJ la), none, some (vI ((kk : Nat) : Int)), z9, z10, z11, z12, z13, z14, z15, z16] [vI ((r : Nat) : Int)] (HS t m) Q := by
  have hC := hI.2.2.2.1
  have h5 := hI.1.2.2.1.2.1
  have hpJ := prod_in hC h5 r
  refine tg (fun _ _ k => ev_go (pc' := 50) (ls' := [some (vR (some 1)), some (vI ((S.length : Nat) : Int)), some (vR (some 190)), some (vR (some 191)), some (vI ((fr : Nat) : Int)), some (vI 1), some (vJ la), none, some (vI ((kk : Nat) : Int)), some (vI ((r : Nat) : Int)), z10, z11, z12, z13, z14, z15, z16]) (st' := [vI ((r : Nat) : Int), vR (some 1)]) (h1 := HS t m) 3 (by rfl) k) ?_
  obtain ⟨m1, hE, hkp⟩ := q_product (L := L) (xs := xs) (t := t) (d := 11) hI hr h0 (by omega)
  refine tg (fun _ _ k => ev_call rfl rfl (Nat.le_of_ble_eq_true rfl) hE ⟨Nat.le_refl _, Nat.le_refl _⟩ k) ?_
  show Tg L xs _ 94 53 [some (vR (some 1)), some (vI ((S.length : Nat) : Int)), some (vR (some 190)), some (vR (some 191)), some (vI ((fr : Nat) : Int)), some (vI 1), some (vJ la), none, some (vI ((kk : Nat) : Int)), some (vI ((r : Nat) : Int)), z10, z11, z12, z13, z14, z15, z16] [vJ (spProd C S r)] (HS t m1) _
  refine tg (fun _ _ k => ev_go (pc' := 64) (ls' := [some (vR (some 1)), some (vI ((S.length : Nat) : Int)), some (vR (some 190)), some (vR (some 191)), some (vI ((fr : Nat) : Int)), some (vI 1), some (vJ la), none, some (vI ((kk : Nat) : Int)), some (vI ((r : Nat) : Int)), some (vJ (spProd C S r)), none, some (vJ 1), none, some (vI (-1)), some (vI 0), z16]) (st' := []) (h1 := HS t m1) 7 (by rfl) k) ?_
  have K2 : ∀ m', Kp m1 m' → ∀ (bf p9 du : Int) (z16 : Option mMV), du = spProd C S r → Tg L xs 12 94 151 [some (vR (some 1)), some (vI ((S.length : Nat) : Int)), some (vR (some 190)), some (vR (some 191)), some (vI ((fr : Nat) : Int)), some (vI 1), some (vJ la), none, some (vI ((kk : Nat) : Int)), some (vI ((r : Nat) : Int)), some (vJ (spProd C S r)), none, some (vJ du), none, some (vI bf), some (vI p9), z16] [] (HS t m') Q := by
    intro m' hk2 bf p9 du z16 hdu
    subst hdu
    refine tg (fun _ _ k => ev_go (pc' := 155) (ls' := [some (vR (some 1)), some (vI ((S.length : Nat) : Int)), some (vR (some 190)), some (vR (some 191)), some (vI ((fr : Nat) : Int)), some (vI 1), some (vJ la), none, some (vI ((kk : Nat) : Int)), some (vI ((r : Nat) : Int)), some (vJ (spProd C S r)), none, some (vJ (spProd C S r)), none, some (vI bf), some (vI p9), z16]) (st' := [vJ (spProd C S r), vJ (spProd C S r)]) (h1 := HS t m') 2 (by rfl) k) ?_
    refine tg (fun _ _ k => ev_lcmp rfl hpJ hpJ k) ?_
    refine tg (fun _ _ k => ev_if1 rfl (cmp_in _ _) (fun c156 => absurd c156 (fun h => h (cmp_self _))) (fun c156 => k)) ?_
    refine tg (fun _ _ k => ev_go (pc' := 162) (ls' := [some (vR (some 1)), some (vI ((S.length : Nat) : Int)), some (vR (some 190)), some (vR (some 191)), some (vI ((fr : Nat) : Int)), some (vI 1), some (vJ la), none, some (vI ((kk : Nat) : Int)), some (vI ((r : Nat) : Int)), some (vJ (spProd C S r)), none, some (vJ (spProd C S r)), none, some (vI bf), some (vI p9), z16]) (st' := [vI 1, vI ((kk : Nat) : Int)]) (h1 := HS t m') 2 (by rfl) k) ?_
    by_cases c162 : 1 < ((kk : Nat) : Int)
    · refine tg (fun _ _ k => ev_ic4 rfl (inI_of (by omega) (by omega)) rfl (fun _ => k) (fun z => absurd c162 (by omega))) ?_
      refine tg (fun _ _ k => ev_go (pc' := 175) (ls' := [some (vR (some 1)), some (vI ((S.length : Nat) : Int)), some (vR (some 190)), some (vR (some 191)), some (vI ((fr : Nat) : Int)), some (vI 1), some (vJ la), none, some (vI ((kk : Nat) : Int)), some (vI ((r : Nat) : Int)), some (vJ (spProd C S r)), none, some (vJ (spProd C S r)), none, some (vI bf), some (vI p9), z16]) (st' := [vI ((r : Nat) : Int)]) (h1 := HS t m') 1 (by rfl) k) ?_
      by_cases c175 : 0 < ((r : Nat) : Int)
      · refine tg (fun _ _ k => ev_if4 rfl (inI_of (by omega) (by omega)) (fun _ => k) (fun z => absurd c175 (by omega))) ?_
        refine tg (fun _ _ k => ev_go (pc' := 11) (ls' := [some (vR (some 1)), some (vI ((S.length : Nat) : Int)), some (vR (some 190)), some (vR (some 191)), some (vI ((fr : Nat) : Int)), some (vI 1), some (vJ (spProd C S r)), none, some (vI ((kk + 1 : Nat) : Int)), some (vI ((r : Nat) : Int)), some (vJ (spProd C S r)), none, some (vJ (spProd C S r)), none, some (vI bf), some (vI p9), z16]) (st' := []) (h1 := HS t m') 7 (by rfl) k) ?_
        exact K m' (Kp_tr hkp hk2) _ _ _ _ _ _ _ _
      · refine tg (fun _ _ k => ev_if4 rfl (inI_of (by omega) (by omega)) (fun z => absurd z c175) (fun _ => k)) ?_
        refine tg (fun _ _ k => ev_go (pc' := 181) (ls' := [some (vR (some 1)), some (vI ((S.length : Nat) : Int)), some (vR (some 190)), some (vR (some 191)), some (vI ((fr : Nat) : Int)), some (vI 1), some (vJ la), none, some (vI ((kk : Nat) : Int)), some (vI ((r : Nat) : Int)), some (vJ (spProd C S r)), none, some (vJ (spProd C S r)), none, some (vI bf), some (vI p9), z16]) (st' := [vJ 0, vJ (spProd C S r)]) (h1 := HS t m') 2 (by rfl) k) ?_
        refine tg (fun _ _ k => ev_lcmp rfl hpJ rfl k) ?_
        refine tg (fun _ _ k => ev_if5 rfl (cmp_in _ _) (fun c182 => absurd c182 (fun h => absurd (cz_le h) (by omega))) (fun c182 => k)) ?_
        refine tg (fun _ _ k => ev_go (pc' := 11) (ls' := [some (vR (some 1)), some (vI ((S.length : Nat) : Int)), some (vR (some 190)), some (vR (some 191)), some (vI ((fr : Nat) : Int)), some (vI 1), some (vJ (spProd C S r)), none, some (vI ((kk + 1 : Nat) : Int)), some (vI ((r : Nat) : Int)), some (vJ (spProd C S r)), none, some (vJ (spProd C S r)), none, some (vI bf), some (vI p9), z16]) (st' := []) (h1 := HS t m') 7 (by rfl) k) ?_
        exact K m' (Kp_tr hkp hk2) _ _ _ _ _ _ _ _
    · refine tg (fun _ _ k => ev_ic4 rfl (inI_of (by omega) (by omega)) rfl (fun z => absurd z c162) (fun _ => k)) ?_
      refine tg (fun _ _ k => ev_go (pc' := 169) (ls' := [some (vR (some 1)), some (vI ((S.length : Nat) : Int)), some (vR (some 190)), some (vR (some 191)), some (vI ((fr : Nat) : Int)), some (vI 1), some (vJ la), none, some (vI ((kk : Nat) : Int)), some (vI ((r : Nat) : Int)), some (vJ (spProd C S r)), none, some (vJ (spProd C S r)), none, some (vI bf), some (vI p9), z16]) (st' := [vJ la, vJ (spProd C S r)]) (h1 := HS t m') 2 (by rfl) k) ?_
      refine tg (fun _ _ k => ev_lcmp rfl hpJ hlaJ k) ?_
      refine tg (fun _ _ k => ev_if4 rfl (cmp_in _ _) (fun c170 => absurd c170 (fun h => absurd (cz_gt h) (by omega))) (fun c170 => k)) ?_
      refine tg (fun _ _ k => ev_go (pc' := 175) (ls' := [some (vR (some 1)), some (vI ((S.length : Nat) : Int)), some (vR (some 190)), some (vR (some 191)), some (vI ((fr : Nat) : Int)), some (vI 1), some (vJ la), none, some (vI ((kk : Nat) : Int)), some (vI ((r : Nat) : Int)), some (vJ (spProd C S r)), none, some (vJ (spProd C S r)), none, some (vI bf), some (vI p9), z16]) (st' := [vI ((r : Nat) : Int)]) (h1 := HS t m') 1 (by rfl) k) ?_
      by_cases c175 : 0 < ((r : Nat) : Int)
      · refine tg (fun _ _ k => ev_if4 rfl (inI_of (by omega) (by omega)) (fun _ => k) (fun z => absurd c175 (by omega))) ?_
        refine tg (fun _ _ k => ev_go (pc' := 11) (ls' := [some (vR (some 1)), some (vI ((S.length : Nat) : Int)), some (vR (some 190)), some (vR (some 191)), some (vI ((fr : Nat) : Int)), some (vI 1), some (vJ (spProd C S r)), none, some (vI ((kk + 1 : Nat) : Int)), some (vI ((r : Nat) : Int)), some (vJ (spProd C S r)), none, some (vJ (spProd C S r)), none, some (vI bf), some (vI p9), z16]) (st' := []) (h1 := HS t m') 7 (by rfl) k) ?_
        exact K m' (Kp_tr hkp hk2) _ _ _ _ _ _ _ _
      · refine tg (fun _ _ k => ev_if4 rfl (inI_of (by omega) (by omega)) (fun z => absurd z c175) (fun _ => k)) ?_
        refine tg (fun _ _ k => ev_go (pc' := 181) (ls' := [some (vR (some 1)), some (vI ((S.length : Nat) : Int)), some (vR (some 190)), some (vR (some 191)), some (vI ((fr : Nat) : Int)), some (vI 1), some (vJ la), none, some (vI ((kk : Nat) : Int)), some (vI ((r : Nat) : Int)), some (vJ (spProd C S r)), none, some (vJ (spProd C S r)), none, some (vI bf), some (vI p9), z16]) (st' := [vJ 0, vJ (spProd C S r)]) (h1 := HS t m') 2 (by rfl) k) ?_
        refine tg (fun _ _ k => ev_lcmp rfl hpJ rfl k) ?_
        refine tg (fun _ _ k => ev_if5 rfl (cmp_in _ _) (fun c182 => absurd c182 (fun h => absurd (cz_le h) (by omega))) (fun c182 => k)) ?_
        refine tg (fun _ _ k => ev_go (pc' := 11) (ls' := [some (vR (some 1)), some (vI ((S.length : Nat) : Int)), some (vR (some 190)), some (vR (some 191)), some (vI ((fr : Nat) : Int)), some (vI 1), some (vJ (spProd C S r)), none, some (vI ((kk + 1 : Nat) : Int)), some (vI ((r : Nat) : Int)), some (vJ (spProd C S r)), none, some (vJ (spProd C S r)), none, some (vI bf), some (vI p9), z16]) (st' := []) (h1 := HS t m') 7 (by rfl) k) ?_
        exact K m' (Kp_tr hkp hk2) _ _ _ _ _ _ _ _
  by_cases hk : r < (LST C S).length
  · obtain ⟨q, hq, e, hpos2⟩ := LST_at hC hk
    exact l_rk_in hC h5 hr hk e hpos2 S.length 0 (-1) 1 _ m1 (by omega) (IV_kp hI hkp) (GA_hi (Kp_hi hkp) hG) (WA_hi (Kp_hi hkp) hW) (Or.inl ⟨rfl, rfl⟩) rfl (by decide) K2
  · exact l_rk_A h5 hr hk (IV_kp hI hkp) h0 K2
set_option maxRecDepth 10000 in
theorem l_rk_out {L : Nat} {xs : Nat → Int32} {t : Bool × Nat × Nat} {w : Int} {k : Nat} {C : List Tx} {D : List (Int × Nat)} {S : List (Int × Int)} {Q : Option mMV ⊕ Nat → mMH → Prop} {fr : Nat} (h0 : 0 < S.length) (hfr : fr < 8) : ∀ (c kk : Nat) (la : Int) (z9 z10 z11 z12 z13 z14 z15 z16 : Option mMV) (m : mMM), kk + c = 4 → IV m w k C D S → GA m S → WA m C S → inJ la = true → ((kk = 0 → spProd C S 0 ≤ la) ∧ (kk = 1 → spProd C S 1 ≤ la)) → (∀ m', Kp m m' → ∀ (la : Int) (z9 z10 z11 z12 z13 z14 z15 z16 : Option mMV), Tg L xs 12 94 202 [some (vR (some 1)), some (vI ((S.length : Nat) : Int)), some (vR (some 190)), some (vR (some 191)), some (vI ((fr : Nat) : Int)), some (vI 1), some (vJ la), none, some (vI ((4 : Nat) : Int)), z9, z10, z11, z12, z13, z14, z15, z16] [] (HS t m') Q) → Tg L xs 12 94 11 [some (vR (some 1)), some (vI ((S.length : Nat) : Int)), some (vR (some 190)), some (vR (some 191)), some (vI ((fr : Nat) : Int)), some (vI 1), some (vJ la), none, some (vI ((kk : Nat) : Int)), z9, z10, z11, z12, z13, z14, z15, z16] [] (HS t m) Q := by
  intro c
  induction c with
  | zero =>
    intro kk la z9 z10 z11 z12 z13 z14 z15 z16 m hc hI hG hW hlaJ hla K
    have hk4 : kk = 4 := by omega
    subst hk4
    refine tg (fun _ _ k => ev_go (pc' := 14) (ls' := [some (vR (some 1)), some (vI ((S.length : Nat) : Int)), some (vR (some 190)), some (vR (some 191)), some (vI ((fr : Nat) : Int)), some (vI 1), some (vJ la), none, some (vI ((4 : Nat) : Int)), z9, z10, z11, z12, z13, z14, z15, z16]) (st' := [vI 4, vI ((4 : Nat) : Int)]) (h1 := HS t m) 2 (by rfl) k) ?_
    refine tg (fun _ _ k => ev_ic3 rfl (inI_of (by omega) (by omega)) rfl (fun c14 => k) (fun c14 => absurd c14 (by omega))) ?_
    exact K m (Kp_self hI.1.2.2.2) _ _ _ _ _ _ _ _ _
  | succ c IH =>
    intro kk la z9 z10 z11 z12 z13 z14 z15 z16 m hc hI hG hW hlaJ hla K
    have hC := hI.2.2.2.1
    have hS := hI.2.2.2.2
    have h5 := hI.1.2.2.1.2.1
    refine tg (fun _ _ k => ev_go (pc' := 14) (ls' := [some (vR (some 1)), some (vI ((S.length : Nat) : Int)), some (vR (some 190)), some (vR (some 191)), some (vI ((fr : Nat) : Int)), some (vI 1), some (vJ la), none, some (vI ((kk : Nat) : Int)), z9, z10, z11, z12, z13, z14, z15, z16]) (st' := [vI 4, vI ((kk : Nat) : Int)]) (h1 := HS t m) 2 (by rfl) k) ?_
    refine tg (fun _ _ k => ev_ic3 rfl (inI_of (by omega) (by omega)) rfl (fun c14 => absurd c14 (by omega)) (fun c14 => k)) ?_
    refine tg (fun _ _ k => ev_go (pc' := 19) (ls' := [some (vR (some 1)), some (vI ((S.length : Nat) : Int)), some (vR (some 190)), some (vR (some 191)), some (vI ((fr : Nat) : Int)), some (vI 1), some (vJ la), none, some (vI ((kk : Nat) : Int)), z9, z10, z11, z12, z13, z14, z15, z16]) (st' := [vI 1]) (h1 := HS t m) 1 (by rfl) k) ?_
    refine tg (fun _ _ k => ev_if0 rfl rfl (fun c19 => absurd c19 (by decide)) (fun c19 => k)) ?_
    refine tg (fun _ _ k => ev_go (pc' := 25) (ls' := [some (vR (some 1)), some (vI ((S.length : Nat) : Int)), some (vR (some 190)), some (vR (some 191)), some (vI ((fr : Nat) : Int)), some (vI 1), some (vJ la), none, some (vI ((kk : Nat) : Int)), z9, z10, z11, z12, z13, z14, z15, z16]) (st' := [vI 2, vI ((kk : Nat) : Int)]) (h1 := HS t m) 2 (by rfl) k) ?_
    by_cases c25 : 2 ≤ ((kk : Nat) : Int)
    · refine tg (fun _ _ k => ev_ic3 rfl (inI_of (by omega) (by omega)) rfl (fun _ => k) (fun z => absurd c25 (by omega))) ?_
      refine tg (fun _ _ k => ev_go (pc' := 42) (ls' := [some (vR (some 1)), some (vI ((S.length : Nat) : Int)), some (vR (some 190)), some (vR (some 191)), some (vI ((fr : Nat) : Int)), some (vI 1), some (vJ la), none, some (vI ((kk : Nat) : Int)), z9, z10, z11, z12, z13, z14, z15, z16]) (st' := [vI 8, vI ((fr + 3 * kk : Nat) : Int)]) (h1 := HS t m) 6 (by rfl) k) ?_
      refine tg (fun _ _ k => ev_irem rfl (inI_of (by omega) (by omega)) rfl (by omega) k) ?_
      show Tg L xs _ 94 43 [some (vR (some 1)), some (vI ((S.length : Nat) : Int)), some (vR (some 190)), some (vR (some 191)), some (vI ((fr : Nat) : Int)), some (vI 1), some (vJ la), none, some (vI ((kk : Nat) : Int)), z9, z10, z11, z12, z13, z14, z15, z16] [vI (((fr + 3 * kk) % 8 : Nat) : Int)] (HS t m) _
      refine tg (fun _ _ k => ev_go (pc' := 45) (ls' := [some (vR (some 1)), some (vI ((S.length : Nat) : Int)), some (vR (some 190)), some (vR (some 191)), some (vI ((fr : Nat) : Int)), some (vI 1), some (vJ la), none, some (vI ((kk : Nat) : Int)), z9, z10, z11, z12, z13, z14, z15, z16]) (st' := [vI ((((fr + 3 * kk) % 8) + 2 : Nat) : Int)]) (h1 := HS t m) 2 (by rfl) k) ?_
      refine l_rk_body (r := (fr + 3 * kk) % 8 + 2) hI hG hW (by omega) h0 (by omega) hlaJ (Or.inl (by omega)) (Or.inl (by omega)) (fun m' hkp y9 y10 y11 y12 y13 y14 y15 y16 => ?_)
      exact IH (kk + 1) _ _ _ _ _ _ _ _ _ m' (by omega) (IV_kp hI hkp) (GA_hi (Kp_hi hkp) hG) (WA_hi (Kp_hi hkp) hW) (prod_in hC h5 _) ⟨fun h => absurd h (by omega), fun h => absurd h (by omega)⟩ (fun m2 h2 => K m2 (Kp_tr hkp h2))
    · refine tg (fun _ _ k => ev_ic3 rfl (inI_of (by omega) (by omega)) rfl (fun z => absurd z c25) (fun _ => k)) ?_
      refine tg (fun _ _ k => ev_go (pc' := 45) (ls' := [some (vR (some 1)), some (vI ((S.length : Nat) : Int)), some (vR (some 190)), some (vR (some 191)), some (vI ((fr : Nat) : Int)), some (vI 1), some (vJ la), none, some (vI ((kk : Nat) : Int)), z9, z10, z11, z12, z13, z14, z15, z16]) (st' := [vI ((kk : Nat) : Int)]) (h1 := HS t m) 2 (by rfl) k) ?_
      refine l_rk_body (r := kk) hI hG hW (by omega) h0 (by omega) hlaJ (Or.inr ?_) ?_ (fun m' hkp y9 y10 y11 y12 y13 y14 y15 y16 => ?_)
      · rcases (show kk = 0 ∨ kk = 1 by omega) with rfl | rfl
        · exact hla.1 rfl
        · exact hla.2 rfl
      · rcases (show kk = 0 ∨ kk = 1 by omega) with rfl | rfl
        · exact Or.inr (prod_pos hC hS h5).1
        · exact Or.inl (by decide)
      · refine IH (kk + 1) _ _ _ _ _ _ _ _ _ m' (by omega) (IV_kp hI hkp) (GA_hi (Kp_hi hkp) hG) (WA_hi (Kp_hi hkp) hW) (prod_in hC h5 _) ⟨fun h => absurd h (by omega), fun h => ?_⟩ (fun m2 h2 => K m2 (Kp_tr hkp h2))
        have hkk0 : kk = 0 := by omega
        subst hkk0
        exact prod_le hC h5 (by decide)
set_option maxRecDepth 10000 in
theorem c_areRanks {L : Nat} {xs : Nat → Int32} {t : Bool × Nat × Nat} {m : mMM} {fr : Nat} {w : Int} {k : Nat} {C : List Tx} {D : List (Int × Nat)} {S : List (Int × Int)} (hI : IV m w k C D S) (hG : GA m S) (hW : WA m C S) (h0 : 0 < S.length) (hfr : fr < 8) : ∃ m' : mMM, Ev (PP L xs) 12 94 0 (entL 17 [vR (some 1), vI ((S.length : Nat) : Int), vR (some 190), vR (some 191), vI ((fr : Nat) : Int)]) [] (HS t m) (.inl (some (vI 1))) (HS (tt t) m') ∧ Kp m m' := by
  have hC := hI.2.2.2.1
  have h5 := hI.1.2.2.1.2.1
  have h98 := prod_le hC h5 (show 8 < 9 by decide)
  have hb0 := spProd_bd hC h5 0
  have h : Tg L xs 12 94 0 (entL 17 [vR (some 1), vI ((S.length : Nat) : Int), vR (some 190), vR (some 191), vI ((fr : Nat) : Int)]) [] (HS t m) (fun o h' => o = .inl (some (vI 1)) ∧ ∃ m', h' = HS (tt t) m' ∧ Kp m m') := by
    refine tg (fun _ _ k => ev_go (pc' := 11) (ls' := [some (vR (some 1)), some (vI ((S.length : Nat) : Int)), some (vR (some 190)), some (vR (some 191)), some (vI ((fr : Nat) : Int)), some (vI 1), some (vJ 9223372036854775807), none, some (vI 0), none, none, none, none, none, none, none, none]) (st' := []) (h1 := HS t m) 6 (by rfl) k) ?_
    refine l_rk_out h0 hfr 4 0 _ _ _ _ _ _ _ _ _ m (by omega) hI hG hW rfl ⟨fun _ => by omega, fun h => absurd h (by omega)⟩ (fun m' hkp la z9 z10 z11 z12 z13 z14 z15 z16 => ?_)
    refine tg (fun _ _ k => ev_go (pc' := 204) (ls' := [some (vR (some 1)), some (vI ((S.length : Nat) : Int)), some (vR (some 190)), some (vR (some 191)), some (vI ((fr : Nat) : Int)), some (vI 1), some (vJ la), none, some (vI ((4 : Nat) : Int)), z9, z10, z11, z12, z13, z14, z15, z16]) (st' := [vI 1]) (h1 := HS t m') 1 (by rfl) k) ?_
    refine tg (fun _ _ k => ev_if0 rfl rfl (fun c204 => absurd c204 (by decide)) (fun c204 => k)) ?_
    refine tg (fun _ _ k => ev_go (pc' := 210) (ls' := [some (vR (some 1)), some (vI ((S.length : Nat) : Int)), some (vR (some 190)), some (vR (some 191)), some (vI ((fr : Nat) : Int)), some (vI 1), some (vJ la), none, some (vI ((4 : Nat) : Int)), z9, z10, z11, z12, z13, z14, z15, z16]) (st' := [vI 9, vR (some 1)]) (h1 := HS t m') 2 (by rfl) k) ?_
    obtain ⟨m2, hE9, hkp9⟩ := q_product (L := L) (xs := xs) (t := t) (r := 9) (d := 11) (IV_kp hI hkp) (by decide) h0 (by omega)
    refine tg (fun _ _ k => ev_call rfl rfl (Nat.le_of_ble_eq_true rfl) hE9 ⟨Nat.le_refl _, Nat.le_refl _⟩ k) ?_
    show Tg L xs _ 94 213 [some (vR (some 1)), some (vI ((S.length : Nat) : Int)), some (vR (some 190)), some (vR (some 191)), some (vI ((fr : Nat) : Int)), some (vI 1), some (vJ la), none, some (vI ((4 : Nat) : Int)), z9, z10, z11, z12, z13, z14, z15, z16] [vJ (spProd C S 9)] (HS t m2) _
    refine tg (fun _ _ k => ev_go (pc' := 216) (ls' := [some (vR (some 1)), some (vI ((S.length : Nat) : Int)), some (vR (some 190)), some (vR (some 191)), some (vI ((fr : Nat) : Int)), some (vI 1), some (vJ la), none, some (vI ((4 : Nat) : Int)), z9, z10, z11, z12, z13, z14, z15, z16]) (st' := [vI 8, vR (some 1), vJ (spProd C S 9)]) (h1 := HS t m2) 2 (by rfl) k) ?_
    obtain ⟨m3, hE8, hkp8⟩ := q_product (L := L) (xs := xs) (t := t) (r := 8) (d := 11) (IV_kp (IV_kp hI hkp) hkp9) (by decide) h0 (by omega)
    refine tg (fun _ _ k => ev_call rfl rfl (Nat.le_of_ble_eq_true rfl) hE8 ⟨Nat.le_refl _, Nat.le_refl _⟩ k) ?_
    show Tg L xs _ 94 219 [some (vR (some 1)), some (vI ((S.length : Nat) : Int)), some (vR (some 190)), some (vR (some 191)), some (vI ((fr : Nat) : Int)), some (vI 1), some (vJ la), none, some (vI ((4 : Nat) : Int)), z9, z10, z11, z12, z13, z14, z15, z16] [vJ (spProd C S 8), vJ (spProd C S 9)] (HS t m3) _
    refine tg (fun _ _ k => ev_lcmp rfl (prod_in hC h5 9) (prod_in hC h5 8) k) ?_
    refine tg (fun _ _ k => ev_if4 rfl (cmp_in _ _) (fun c220 => absurd c220 (fun h => absurd (cz_gt h) (by omega))) (fun c220 => k)) ?_
    refine tg (fun _ _ k => ev_go (pc' := 228) (ls' := [some (vR (some 1)), some (vI ((S.length : Nat) : Int)), some (vR (some 190)), some (vR (some 191)), some (vI ((fr : Nat) : Int)), some (vI 1), some (vJ la), none, some (vI ((4 : Nat) : Int)), z9, z10, z11, z12, z13, z14, z15, z16]) (st' := [vI ((S.length : Nat) : Int), vI 0, vI 8, vR (some 1)]) (h1 := HS t m3) 4 (by rfl) k) ?_
    have hEX := q_pathX (L := L) (xs := xs) (t := t) (r := 0) (p := S.length) (d := 9) (IV_kp (IV_kp (IV_kp hI hkp) hkp9) hkp8) (Nat.le_refl _) (by omega) (by omega)
    refine tg (fun _ _ k => ev_call rfl rfl (Nat.le_of_ble_eq_true rfl) hEX ⟨Nat.le_succ _, Nat.le_add_right _ _⟩ k) ?_
    show Tg L xs _ 94 231 [some (vR (some 1)), some (vI ((S.length : Nat) : Int)), some (vR (some 190)), some (vR (some 191)), some (vI ((fr : Nat) : Int)), some (vI 1), some (vJ la), none, some (vI ((4 : Nat) : Int)), z9, z10, z11, z12, z13, z14, z15, z16] [vI (-1011)] (HS (tt t) m3) _
    refine tg (fun _ _ k => ev_go (pc' := 234) (ls' := [some (vR (some 1)), some (vI ((S.length : Nat) : Int)), some (vR (some 190)), some (vR (some 191)), some (vI ((fr : Nat) : Int)), some (vI 1), some (vJ la), none, some (vI ((4 : Nat) : Int)), z9, z10, z11, z12, z13, z14, z15, z16]) (st' := [vI (-1011), vI (-1011)]) (h1 := HS (tt t) m3) 1 (by rfl) k) ?_
    refine tg (fun _ _ k => ev_ic1 rfl rfl rfl (fun c234 => absurd c234 (by decide)) (fun c234 => k)) ?_
    refine tg (fun _ _ k => ev_go (pc' := 242) (ls' := [some (vR (some 1)), some (vI ((S.length : Nat) : Int)), some (vR (some 190)), some (vR (some 191)), some (vI ((fr : Nat) : Int)), some (vI 1), some (vJ la), none, some (vI ((4 : Nat) : Int)), z9, z10, z11, z12, z13, z14, z15, z16]) (st' := [vI 1]) (h1 := HS (tt t) m3) 2 (by rfl) k) ?_
    exact ⟨_, _, ev_zret rfl (Or.inr rfl) rfl, rfl, m3, rfl, Kp_tr hkp (Kp_tr hkp9 hkp8)⟩
  obtain ⟨o, h', hE, rfl, m', rfl, hkp⟩ := h
  exact ⟨m', hE, hkp⟩
