/-! ===== the class' calls: path, pathAnew, product, cost, share, shareAnew ===== -/
theorem LST_mem {C : List Tx} (hC : VC C) {S : List (Int × Int)} {x : Pr} (h : x ∈ LST C S) : ∃ q, q < 5 ^ S.length ∧ x = pw (sA0 C S) (sAA C S) S.length q := by
  unfold LST at h
  rcases oLs_mem h with h | h
  · exact absurd h List.not_mem_nil
  · obtain ⟨q, hq, rfl⟩ := List.mem_map.mp h
    exact ⟨q, List.mem_range.mp hq, rfl⟩
theorem LST_bd {C : List Tx} (hC : VC C) {S : List (Int × Int)} (h5 : S.length ≤ 5) {x : Pr} (h : x ∈ LST C S) : 0 ≤ x.1 ∧ x.1 ≤ 992436543 ∧ 0 ≤ x.2 ∧ x.2 < 32768 := by
  obtain ⟨q, -, rfl⟩ := LST_mem hC h
  have h1 := wt_bd5 (AB_s hC S) h5 q
  have h2 := cd_bd5 h5 q
  exact ⟨h1.1, h1.2, h2.1, h2.2⟩
theorem LST_len (C : List Tx) (S : List (Int × Int)) : (LST C S).length ≤ 10 := (Gd_foldl _ _ Gd_nil).2.1
theorem x_tagOf {L : Nat} {xs : Nat → Int32} {t : Bool × Nat × Nat} {d k f : Nat} {m : mMM} {l : List Pr} (hr : RK m 185 l) (hB : ∀ x, x ∈ l → 0 ≤ x.2 ∧ x.2 < 32768) (hk : k < 10) (hf : f < 5) : Ev (PP L xs) d 34 0 (entL 3 [vR (some 185), vI ((k : Nat) : Int), vI ((f : Nat) : Int)]) [] (HS t m) (.inl (some (vI (if k < l.length then (gl l k).2 / 2 ^ (3 * f) % 2 ^ 3 else -1)))) (HS t m) := by
  have h := c_rk_tagOf (L := L) (xs := xs) (t := t) (d := d) (m := m) (n := l.length) RKA_best hr.1 hk hr.2.1 hf (fun hkl => by
    rw [(hr.2.2 k hkl).2]; have := hB _ (gl_mem hkl); omega)
  by_cases c : k < l.length
  · rw [if_pos c] at h ⊢; rw [(hr.2.2 k c).2] at h; exact h
  · rw [if_neg c] at h ⊢; exact h
theorem x_weightOf {L : Nat} {xs : Nat → Int32} {t : Bool × Nat × Nat} {d k : Nat} {m : mMM} {l : List Pr} (hr : RK m 185 l) (hk : k < 10) : Ev (PP L xs) d 33 0 (entL 2 [vR (some 185), vI ((k : Nat) : Int)]) [] (HS t m) (.inl (some (vJ (if k < l.length then (gl l k).1 else 0)))) (HS t m) := by
  have h := c_rk_weightOf (L := L) (xs := xs) (t := t) (d := d) (m := m) (n := l.length) RKA_best hr.1 hk hr.2.1
  by_cases c : k < l.length
  · rw [if_pos c] at h ⊢; rw [(hr.2.2 k c).1] at h; exact h
  · rw [if_neg c] at h ⊢; exact h
/-- how often a weight has to be doubled -/
def dbF : Nat → Int → Int
  | 0, _ => 0
  | c + 1, w => if w ≤ 1152921504606846975 then 1 + dbF c (w + w) else 0
def spPath (C : List Tx) (S : List (Int × Int)) (k p : Nat) : Int := if k < (LST C S).length then (gl (LST C S) k).2 / 2 ^ (3 * (S.length - 1 - p)) % 2 ^ 3 else -1
def spProd (C : List Tx) (S : List (Int × Int)) (k : Nat) : Int := if k < (LST C S).length then (gl (LST C S) k).1 else 0
def spShare (C : List Tx) (S : List (Int × Int)) (p g : Nat) : Int := Int.tdiv (1000 * PS (sA0 C S) (sAA C S) S.length (S.length - 1 - p) g) (TOT C S)
theorem spProd_bd {C : List Tx} (hC : VC C) {S : List (Int × Int)} (h5 : S.length ≤ 5) (k : Nat) : 0 ≤ spProd C S k ∧ spProd C S k ≤ 992436543 := by
  unfold spProd
  by_cases c : k < (LST C S).length
  · rw [if_pos c]; have := LST_bd hC h5 (gl_mem c); omega
  · rw [if_neg c]; decide
theorem map_pw {a0 b0 : Nat → Int} {aa bb : Nat → Nat → Nat → Int} {n : Nat} (h : ∀ k q, k ≤ n → wt a0 aa k q = wt b0 bb k q) (N : Nat) : (List.range N).map (pw a0 aa n) = (List.range N).map (pw b0 bb n) :=
  List.map_congr_left (fun q _ => by unfold pw; rw [h n q (Nat.le_refl n)])
theorem PS_congr {a0 b0 : Nat → Int} {aa bb : Nat → Nat → Nat → Int} {n : Nat} (h : ∀ k q, k ≤ n → wt a0 aa k q = wt b0 bb k q) (c g : Nat) : PS a0 aa n c g = PS b0 bb n c g :=
  sumR_congr _ (fun q _ => by rw [h n q (Nat.le_refl n)])
set_option maxRecDepth 10000 in
theorem l_doub {L : Nat} {xs : Nat → Int32} {t : Bool × Nat × Nat} {d : Nat} {m : mMM} {w0 : Int} : ∀ (c k : Nat) (w : Int), k + c = 60 → 0 ≤ w → w < 2305843009213693952 → Ev (PP L xs) d 83 5 [some (vJ w0), none, some (vJ w), none, some (vI ((k : Nat) : Int))] [] (HS t m) (.inl (some (vI ((k : Int) + dbF c w)))) (HS t m) := by
  intro c
  induction c with
  | zero =>
    intro k w hk h0 h1
    show Ev _ _ _ _ _ _ _ (.inl (some (vI ((k : Int) + 0)))) _
    rw [Int.add_zero]
    refine ev_go (pc' := 9) (ls' := [some (vJ w0), none, some (vJ w), none, some (vI ((k : Nat) : Int))]) (st' := [vI 60, vI ((k : Nat) : Int)]) (h1 := HS t m) 2 (by rfl) ?_
    refine ev_ic3 rfl (inI_of (by omega) (by omega)) rfl (fun c9 => ?_) (fun c9 => absurd c9 (by omega))
    refine ev_go (pc' := 32) (ls' := [some (vJ w0), none, some (vJ w), none, some (vI ((k : Nat) : Int))]) (st' := [vI ((k : Nat) : Int)]) (h1 := HS t m) 1 (by rfl) ?_
    exact ev_retE rfl rfl rfl rfl
  | succ c IH =>
    intro k w hk h0 h1
    show Ev _ _ _ _ _ _ _ (.inl (some (vI ((k : Int) + (if w ≤ 1152921504606846975 then 1 + dbF c (w + w) else 0))))) _
    by_cases h2 : w ≤ 1152921504606846975
    · rw [if_pos h2]
      have h3 := IH (k + 1) (w + w) (by omega) (by omega) (by omega)
      rw [show ((k + 1 : Nat) : Int) + dbF c (w + w) = (k : Int) + (1 + dbF c (w + w)) by omega] at h3
      refine ev_go (pc' := 9) (ls' := [some (vJ w0), none, some (vJ w), none, some (vI ((k : Nat) : Int))]) (st' := [vI 60, vI ((k : Nat) : Int)]) (h1 := HS t m) 2 (by rfl) ?_
      refine ev_ic3 rfl (inI_of (by omega) (by omega)) rfl (fun c9 => absurd c9 (by omega)) (fun c9 => ?_)
      refine ev_go (pc' := 16) (ls' := [some (vJ w0), none, some (vJ w), none, some (vI ((k : Nat) : Int))]) (st' := [vJ 1152921504606846975, vJ w]) (h1 := HS t m) 2 (by rfl) ?_
      refine ev_lcmp rfl (inJ_of (by omega) (by omega)) rfl ?_
      refine ev_if4 rfl (cmp_in _ _) (fun c17 => absurd (cz_gt c17) (by omega)) (fun c17 => ?_)
      refine ev_go (pc' := 5) (ls' := [some (vJ w0), none, some (vJ (w + w)), none, some (vI ((k + 1 : Nat) : Int))]) (st' := []) (h1 := HS t m) 6 (by rfl) ?_
      exact h3
    · rw [if_neg h2, Int.add_zero]
      refine ev_go (pc' := 9) (ls' := [some (vJ w0), none, some (vJ w), none, some (vI ((k : Nat) : Int))]) (st' := [vI 60, vI ((k : Nat) : Int)]) (h1 := HS t m) 2 (by rfl) ?_
      refine ev_ic3 rfl (inI_of (by omega) (by omega)) rfl (fun c9 => absurd c9 (by omega)) (fun c9 => ?_)
      refine ev_go (pc' := 16) (ls' := [some (vJ w0), none, some (vJ w), none, some (vI ((k : Nat) : Int))]) (st' := [vJ 1152921504606846975, vJ w]) (h1 := HS t m) 2 (by rfl) ?_
      refine ev_lcmp rfl (inJ_of (by omega) (by omega)) rfl ?_
      refine ev_if4 rfl (cmp_in _ _) (fun c17 => ?_) (fun c17 => absurd (cz_le (show _ ≤ 0 by omega)) (by omega))
      refine ev_go (pc' := 32) (ls' := [some (vJ w0), none, some (vJ w), none, some (vI ((k : Nat) : Int))]) (st' := [vI ((k : Nat) : Int)]) (h1 := HS t m) 1 (by rfl) ?_
      exact ev_retE rfl rfl rfl rfl
set_option maxRecDepth 10000 in
theorem c_doub {L : Nat} {xs : Nat → Int32} {d : Nat} {t : Bool × Nat × Nat} {m : mMM} {w : Int} (h0 : 0 ≤ w) (h1 : w < 2305843009213693952) : Ev (PP L xs) d 83 0 (entL 5 [vJ w]) [] (HS t m) (.inl (some (vI (dbF 60 w)))) (HS t m) := by
  refine ev_go (pc' := 5) (ls' := [some (vJ w), none, some (vJ w), none, some (vI 0)]) (st' := []) (h1 := HS t m) 4 (by rfl) ?_
  have hd := l_doub (L := L) (xs := xs) (t := t) (d := d) (m := m) (w0 := w) 60 0 w rfl h0 h1
  rw [show ((0 : Nat) : Int) + dbF 60 w = dbF 60 w by omega] at hd
  exact hd
set_option maxRecDepth 10000 in
theorem x_rank92 {L : Nat} {xs : Nat → Int32} {t : Bool × Nat × Nat} {d : Nat} {m : mMM} {C : List Tx} {D : List (Int × Nat)} {S : List (Int × Int)} (hC : VC C) (hS : VS S) (hr : RC m C D) (hs : RS m S) (hl : LB9 m) (h0 : 0 < S.length) : ∃ m', Ev (PP L xs) (d + 5) 79 0 (entL 2 [vR (some 1), vR (some 92)]) [] (HS t m) (.inl none) (HS t m') ∧ RK m' 185 (LST C S) ∧ LB9 m' ∧ ∀ b k, (b < 80 ∨ 188 ≤ b) → m' b k = m b k := by
  obtain ⟨m1, hE1, h1, h2, h3, h4, h5, h6⟩ := x_weighAll (L := L) (xs := xs) (t := t) (d := d + 1) hC hS hr hs hl
  have h5n := hs.2.1
  have hF : ∀ b k, b ≠ 185 → up m1 185 2 0 b k = m1 b k := fun b k hb => up_ne1 _ _ hb
  have hlb1 : LBD (up m1 185 2 0) := LBD_any (fun b k h => hF b k (by omega)) h1
  have ha1 : ARC (up m1 185 2 0) (mA0 m1) (mAA m1) := ARC_any (fun b k h => hF b k (by omega)) h2
  have hn1 : (up m1 185 2 0) 75 2 = (S.length : Int) := by rw [hF 75 2 (by decide), h6 75 2 (by omega)]; exact hs.1
  obtain ⟨n, hn⟩ : ∃ n, S.length = n + 1 := ⟨S.length - 1, by omega⟩
  obtain ⟨m2, hE2, hR2, -, -, hF2⟩ := c_rankInto (L := L) (xs := xs) (t := t) (d := d) (n := n) (b := 185) (by omega) (by rw [hn1, hn]) RKA_best (by decide) (TRB_of h3 (by omega)) hlb1 ha1 (up_eq _ _ _ _) (fun f hf => TR_BD h3 (by omega) hf)
  rw [all_top (fun p f g => (h3.2 p f g).1) n, ← hn, map_pw h4] at hR2
  refine ⟨m2, ?_, hR2, LB9_fr (fun b k x y => (hF2 b k (by omega) (by omega) (by omega) (by omega)).trans (hF b k (by omega))) h5, fun b k hb => (hF2 b k (by omega) (by omega) (by omega) (by omega)).trans ((hF b k (by omega)).trans (h6 b k (by omega)))⟩
  refine ev_go (pc' := 1) (ls' := [some (vR (some 1)), some (vR (some 92))]) (st' := [vR (some 1)]) (h1 := HS t m) 1 (by rfl) ?_
  refine ev_getR rfl rfl (rfl : rf 1 3 = some 78) ?_
  refine ev_call rfl rfl (Nat.le_of_ble_eq_true rfl) hE1 ⟨Nat.le_refl _, Nat.le_refl _⟩ ?_
  show Ev (PP L xs) _ 79 7 [some (vR (some 1)), some (vR (some 92))] [] (HS t m1) _ _
  refine ev_go (pc' := 8) (ls' := [some (vR (some 1)), some (vR (some 92))]) (st' := [vR (some 1)]) (h1 := HS t m1) 1 (by rfl) ?_
  refine ev_getR rfl rfl (rfl : rf 1 6 = some 185) ?_
  refine ev_call rfl rfl (Nat.le_of_ble_eq_true rfl) (c_rk_removeAll RKA_best) ⟨Nat.le_refl _, Nat.le_refl _⟩ ?_
  show Ev (PP L xs) _ 79 14 [some (vR (some 1)), some (vR (some 92))] [] (HS t (up m1 185 2 0)) _ _
  refine ev_go (pc' := 16) (ls' := [some (vR (some 1)), some (vR (some 92))]) (st' := [vR (some 1), vR (some 92)]) (h1 := HS t (up m1 185 2 0)) 2 (by rfl) ?_
  refine ev_getR rfl rfl (rfl : rf 1 6 = some 185) ?_
  refine ev_call rfl rfl (Nat.le_of_ble_eq_true rfl) hE2 ⟨Nat.le_refl _, Nat.le_refl _⟩ ?_
  show Ev (PP L xs) _ 79 22 [some (vR (some 1)), some (vR (some 92))] [] (HS t m2) _ _
  exact ev_retE rfl rfl (by first | rfl | (simp [*]; done) | (split <;> first | rfl | (exfalso; omega))) (by first | rfl | (simp [*]; done) | (split <;> first | rfl | (exfalso; omega)))
set_option maxRecDepth 10000 in
theorem x_rank181 {L : Nat} {xs : Nat → Int32} {t : Bool × Nat × Nat} {d : Nat} {m : mMM} {C : List Tx} {D : List (Int × Nat)} {S : List (Int × Int)} (hC : VC C) (hS : VS S) (hr : RC m C D) (hs : RS m S) (hl : LB9 m) (h0 : 0 < S.length) : ∃ m', Ev (PP L xs) (d + 5) 79 0 (entL 2 [vR (some 1), vR (some 181)]) [] (HS t m) (.inl none) (HS t m') ∧ RK m' 185 (LST C S) ∧ LB9 m' ∧ ∀ b k, (b < 80 ∨ 188 ≤ b) → m' b k = m b k := by
  obtain ⟨m1, hE1, h1, h2, h3, h4, h5, h6⟩ := x_weighAll (L := L) (xs := xs) (t := t) (d := d + 1) hC hS hr hs hl
  have h5n := hs.2.1
  have hF : ∀ b k, b ≠ 185 → up m1 185 2 0 b k = m1 b k := fun b k hb => up_ne1 _ _ hb
  have hlb1 : LBD (up m1 185 2 0) := LBD_any (fun b k h => hF b k (by omega)) h1
  have ha1 : ARC (up m1 185 2 0) (mA0 m1) (mAA m1) := ARC_any (fun b k h => hF b k (by omega)) h2
  have hn1 : (up m1 185 2 0) 75 2 = (S.length : Int) := by rw [hF 75 2 (by decide), h6 75 2 (by omega)]; exact hs.1
  obtain ⟨m2, hE2, hR2, hF2⟩ := c_aRank (L := L) (xs := xs) (t := t) (d := d) h3 h0 h5n hn1 hlb1 ha1 (up_eq _ _ _ _)
  rw [map_pw h4] at hR2
  refine ⟨m2, ?_, hR2, LB9_fr (fun b k x y => (hF2 b k (by omega)).trans (hF b k (by omega))) h5, fun b k hb => (hF2 b k (by omega)).trans ((hF b k (by omega)).trans (h6 b k (by omega)))⟩
  refine ev_go (pc' := 1) (ls' := [some (vR (some 1)), some (vR (some 181))]) (st' := [vR (some 1)]) (h1 := HS t m) 1 (by rfl) ?_
  refine ev_getR rfl rfl (rfl : rf 1 3 = some 78) ?_
  refine ev_call rfl rfl (Nat.le_of_ble_eq_true rfl) hE1 ⟨Nat.le_refl _, Nat.le_refl _⟩ ?_
  show Ev (PP L xs) _ 79 7 [some (vR (some 1)), some (vR (some 181))] [] (HS t m1) _ _
  refine ev_go (pc' := 8) (ls' := [some (vR (some 1)), some (vR (some 181))]) (st' := [vR (some 1)]) (h1 := HS t m1) 1 (by rfl) ?_
  refine ev_getR rfl rfl (rfl : rf 1 6 = some 185) ?_
  refine ev_call rfl rfl (Nat.le_of_ble_eq_true rfl) (c_rk_removeAll RKA_best) ⟨Nat.le_refl _, Nat.le_refl _⟩ ?_
  show Ev (PP L xs) _ 79 14 [some (vR (some 1)), some (vR (some 181))] [] (HS t (up m1 185 2 0)) _ _
  refine ev_go (pc' := 16) (ls' := [some (vR (some 1)), some (vR (some 181))]) (st' := [vR (some 1), vR (some 181)]) (h1 := HS t (up m1 185 2 0)) 2 (by rfl) ?_
  refine ev_getR rfl rfl (rfl : rf 1 6 = some 185) ?_
  refine ev_call rfl rfl (Nat.le_of_ble_eq_true rfl) hE2 ⟨Nat.le_refl _, Nat.le_refl _⟩ ?_
  show Ev (PP L xs) _ 79 22 [some (vR (some 1)), some (vR (some 181))] [] (HS t m2) _ _
  exact ev_retE rfl rfl (by first | rfl | (simp [*]; done) | (split <;> first | rfl | (exfalso; omega))) (by first | rfl | (simp [*]; done) | (split <;> first | rfl | (exfalso; omega)))
set_option maxRecDepth 10000 in
theorem x_top92 {L : Nat} {xs : Nat → Int32} {t : Bool × Nat × Nat} {m : mMM} {C : List Tx} {D : List (Int × Nat)} {S : List (Int × Int)} {k p : Nat} (hC : VC C) (hS : VS S) (hr : RC m C D) (hs : RS m S) (hl : LB9 m) (hk : k < 10) (hp : p < S.length) : ∃ m', Ev (PP L xs) 8 78 0 (entL 4 [vR (some 1), vR (some 92), vI (k : Int), vI (p : Int)]) [] (HS t m) (.inl (some (vI (spPath C S k p)))) (HS t m') ∧ LB9 m' ∧ ∀ b k, (b < 80 ∨ 188 ≤ b) → m' b k = m b k := by
  have h5n := hs.2.1
  obtain ⟨m1, hE1, hR1, hL1, hF1⟩ := x_rank92 (L := L) (xs := xs) (t := t) (d := 2) hC hS hr hs hl (by omega)
  have hn1 : m1 75 2 = (S.length : Int) := by rw [hF1 75 2 (by omega)]; exact hs.1
  refine ⟨m1, ?_, hL1, hF1⟩
  refine ev_go (pc' := 2) (ls' := [some (vR (some 1)), some (vR (some 92)), some (vI ((k : Nat) : Int)), some (vI ((p : Nat) : Int))]) (st' := [vI ((p : Nat) : Int), vR (some 1)]) (h1 := HS t m) 2 (by rfl) ?_
  refine ev_call rfl rfl (Nat.le_of_ble_eq_true rfl) (c_reqPlace hs.1 h5n hp) ⟨Nat.le_refl _, Nat.le_refl _⟩ ?_
  show Ev (PP L xs) _ 78 5 [some (vR (some 1)), some (vR (some 92)), some (vI ((k : Nat) : Int)), some (vI ((p : Nat) : Int))] [] (HS t m) _ _
  refine ev_go (pc' := 6) (ls' := [some (vR (some 1)), some (vR (some 92)), some (vI ((k : Nat) : Int)), some (vI ((p : Nat) : Int))]) (st' := [vI ((k : Nat) : Int)]) (h1 := HS t m) 1 (by rfl) ?_
  refine ev_call rfl rfl (Nat.le_of_ble_eq_true rfl) (c_reqRank hk) ⟨Nat.le_refl _, Nat.le_refl _⟩ ?_
  show Ev (PP L xs) _ 78 9 [some (vR (some 1)), some (vR (some 92)), some (vI ((k : Nat) : Int)), some (vI ((p : Nat) : Int))] [] (HS t m) _ _
  refine ev_go (pc' := 11) (ls' := [some (vR (some 1)), some (vR (some 92)), some (vI ((k : Nat) : Int)), some (vI ((p : Nat) : Int))]) (st' := [vR (some 92), vR (some 1)]) (h1 := HS t m) 2 (by rfl) ?_
  refine ev_call rfl rfl (Nat.le_of_ble_eq_true rfl) hE1 ⟨Nat.le_refl _, Nat.le_refl _⟩ ?_
  show Ev (PP L xs) _ 78 14 [some (vR (some 1)), some (vR (some 92)), some (vI ((k : Nat) : Int)), some (vI ((p : Nat) : Int))] [] (HS t m1) _ _
  refine ev_go (pc' := 15) (ls' := [some (vR (some 1)), some (vR (some 92)), some (vI ((k : Nat) : Int)), some (vI ((p : Nat) : Int))]) (st' := [vR (some 1)]) (h1 := HS t m1) 1 (by rfl) ?_
  refine ev_getR rfl rfl (rfl : rf 1 6 = some 185) ?_
  refine ev_go (pc' := 20) (ls' := [some (vR (some 1)), some (vR (some 92)), some (vI ((k : Nat) : Int)), some (vI ((p : Nat) : Int))]) (st' := [vR (some 1), vI ((k : Nat) : Int), vR (some 185)]) (h1 := HS t m1) 2 (by rfl) ?_
  refine ev_getR rfl rfl (rfl : rf 1 2 = some 75) ?_
  have hsz := c_se_size (L := L) (xs := xs) (d := 7) (t := t) (m := m1)
  rw [hn1] at hsz
  refine ev_call rfl rfl (Nat.le_of_ble_eq_true rfl) hsz ⟨Nat.le_refl _, Nat.le_refl _⟩ ?_
  show Ev (PP L xs) _ 78 26 [some (vR (some 1)), some (vR (some 92)), some (vI ((k : Nat) : Int)), some (vI ((p : Nat) : Int))] [vI (S.length : Int), vI ((k : Nat) : Int), vR (some 185)] (HS t m1) _ _
  refine ev_go (pc' := 30) (ls' := [some (vR (some 1)), some (vR (some 92)), some (vI ((k : Nat) : Int)), some (vI ((p : Nat) : Int))]) (st' := [vI (((S.length : Int) - 1) - ((p : Nat) : Int)), vI ((k : Nat) : Int), vR (some 185)]) (h1 := HS t m1) 4 (by rfl) ?_
  rw [show ((S.length : Int) - 1 - ((p : Nat) : Int)) = ((S.length - 1 - p : Nat) : Int) by omega]
  refine ev_call rfl rfl (Nat.le_of_ble_eq_true rfl) (x_tagOf hR1 (fun x hx => ⟨(LST_bd hC h5n hx).2.2.1, (LST_bd hC h5n hx).2.2.2⟩) hk (by omega)) ⟨Nat.le_refl _, Nat.le_refl _⟩ ?_
  show Ev (PP L xs) _ 78 33 [some (vR (some 1)), some (vR (some 92)), some (vI ((k : Nat) : Int)), some (vI ((p : Nat) : Int))] [vI (spPath C S k p)] (HS t m1) _ _
  exact ev_retE rfl rfl (by first | rfl | (simp [*]; done) | (split <;> first | rfl | (exfalso; omega))) (by first | rfl | (simp [*]; done) | (split <;> first | rfl | (exfalso; omega)))
set_option maxRecDepth 10000 in
theorem x_top92X1 {L : Nat} {xs : Nat → Int32} {t : Bool × Nat × Nat} {m : mMM} {S : List (Int × Int)} {x y : Int} (hs : RS m S) (hI : inI y = true) (h : y < 0 ∨ (S.length : Int) ≤ y) : Ev (PP L xs) 8 78 0 (entL 4 [vR (some 1), vR (some 92), vI x, vI y]) [] (HS t m) (.inr 2) (HS (tt t) m) := by
  refine ev_go (pc' := 2) (ls' := [some (vR (some 1)), some (vR (some 92)), some (vI x), some (vI y)]) (st' := [vI y, vR (some 1)]) (h1 := HS t m) 2 (by rfl) ?_
  exact ev_callX rfl rfl (Nat.le_of_ble_eq_true rfl) (c_reqPlaceX (by omega) hs.1 hs.2.1 hI h) ⟨Nat.le_succ _, Nat.le_add_right _ _⟩ rfl
set_option maxRecDepth 10000 in
theorem x_top92X2 {L : Nat} {xs : Nat → Int32} {t : Bool × Nat × Nat} {m : mMM} {S : List (Int × Int)} {p : Nat} {x : Int} (hs : RS m S) (h5n : S.length ≤ 5) (hp : p < S.length) (hI : inI x = true) (h : x < 0 ∨ 10 ≤ x) : Ev (PP L xs) 8 78 0 (entL 4 [vR (some 1), vR (some 92), vI x, vI ((p : Nat) : Int)]) [] (HS t m) (.inr 2) (HS (tt t) m) := by
  refine ev_go (pc' := 2) (ls' := [some (vR (some 1)), some (vR (some 92)), some (vI x), some (vI ((p : Nat) : Int))]) (st' := [vI ((p : Nat) : Int), vR (some 1)]) (h1 := HS t m) 2 (by rfl) ?_
  refine ev_call rfl rfl (Nat.le_of_ble_eq_true rfl) (c_reqPlace hs.1 h5n hp) ⟨Nat.le_refl _, Nat.le_refl _⟩ ?_
  show Ev (PP L xs) _ 78 5 [some (vR (some 1)), some (vR (some 92)), some (vI x), some (vI ((p : Nat) : Int))] [] (HS t m) _ _
  refine ev_go (pc' := 6) (ls' := [some (vR (some 1)), some (vR (some 92)), some (vI x), some (vI ((p : Nat) : Int))]) (st' := [vI x]) (h1 := HS t m) 1 (by rfl) ?_
  exact ev_callX rfl rfl (Nat.le_of_ble_eq_true rfl) (c_reqRankX (by omega) hI h) ⟨Nat.le_succ _, Nat.le_add_right _ _⟩ rfl
set_option maxRecDepth 10000 in
theorem x_path {L : Nat} {xs : Nat → Int32} {t : Bool × Nat × Nat} {m : mMM} {C : List Tx} {D : List (Int × Nat)} {S : List (Int × Int)} {k p : Nat} (hC : VC C) (hS : VS S) (hr : RC m C D) (hs : RS m S) (hl : LB9 m) (hk : k < 10) (hp : p < S.length) : ∃ m', Ev (PP L xs) 9 71 0 (entL 3 [vR (some 1), vI (k : Int), vI (p : Int)]) [] (HS t m) (.inl (some (vI (spPath C S k p)))) (HS t m') ∧ LB9 m' ∧ ∀ b k, (b < 80 ∨ 188 ≤ b) → m' b k = m b k := by
  obtain ⟨m1, hE1, hL1, hF1⟩ := x_top92 (L := L) (xs := xs) (t := t) hC hS hr hs hl hk hp
  refine ⟨m1, ?_, hL1, hF1⟩
  refine ev_go (pc' := 2) (ls' := [some (vR (some 1)), some (vI ((k : Nat) : Int)), some (vI ((p : Nat) : Int))]) (st' := [vR (some 1), vR (some 1)]) (h1 := HS t m) 2 (by rfl) ?_
  refine ev_getR rfl rfl (rfl : rf 1 4 = some 92) ?_
  refine ev_go (pc' := 7) (ls' := [some (vR (some 1)), some (vI ((k : Nat) : Int)), some (vI ((p : Nat) : Int))]) (st' := [vI ((p : Nat) : Int), vI ((k : Nat) : Int), vR (some 92), vR (some 1)]) (h1 := HS t m) 2 (by rfl) ?_
  refine ev_call rfl rfl (Nat.le_of_ble_eq_true rfl) hE1 ⟨Nat.le_refl _, Nat.le_refl _⟩ ?_
  show Ev (PP L xs) _ 71 10 [some (vR (some 1)), some (vI ((k : Nat) : Int)), some (vI ((p : Nat) : Int))] [vI (spPath C S k p)] (HS t m1) _ _
  exact ev_retE rfl rfl (by first | rfl | (simp [*]; done) | (split <;> first | rfl | (exfalso; omega))) (by first | rfl | (simp [*]; done) | (split <;> first | rfl | (exfalso; omega)))
set_option maxRecDepth 10000 in
theorem x_pathX1 {L : Nat} {xs : Nat → Int32} {t : Bool × Nat × Nat} {m : mMM} {S : List (Int × Int)} {x y : Int} (hs : RS m S) (hI : inI y = true) (h : y < 0 ∨ (S.length : Int) ≤ y) : Ev (PP L xs) 9 71 0 (entL 3 [vR (some 1), vI x, vI y]) [] (HS t m) (.inr 2) (HS (tt t) m) := by
  refine ev_go (pc' := 2) (ls' := [some (vR (some 1)), some (vI x), some (vI y)]) (st' := [vR (some 1), vR (some 1)]) (h1 := HS t m) 2 (by rfl) ?_
  refine ev_getR rfl rfl (rfl : rf 1 4 = some 92) ?_
  refine ev_go (pc' := 7) (ls' := [some (vR (some 1)), some (vI x), some (vI y)]) (st' := [vI y, vI x, vR (some 92), vR (some 1)]) (h1 := HS t m) 2 (by rfl) ?_
  exact ev_callX rfl rfl (Nat.le_of_ble_eq_true rfl) (x_top92X1 hs hI h) ⟨Nat.le_succ _, Nat.le_add_right _ _⟩ rfl
set_option maxRecDepth 10000 in
theorem x_pathX2 {L : Nat} {xs : Nat → Int32} {t : Bool × Nat × Nat} {m : mMM} {S : List (Int × Int)} {p : Nat} {x : Int} (hs : RS m S) (hp : p < S.length) (hI : inI x = true) (h : x < 0 ∨ 10 ≤ x) : Ev (PP L xs) 9 71 0 (entL 3 [vR (some 1), vI x, vI ((p : Nat) : Int)]) [] (HS t m) (.inr 2) (HS (tt t) m) := by
  refine ev_go (pc' := 2) (ls' := [some (vR (some 1)), some (vI x), some (vI ((p : Nat) : Int))]) (st' := [vR (some 1), vR (some 1)]) (h1 := HS t m) 2 (by rfl) ?_
  refine ev_getR rfl rfl (rfl : rf 1 4 = some 92) ?_
  refine ev_go (pc' := 7) (ls' := [some (vR (some 1)), some (vI x), some (vI ((p : Nat) : Int))]) (st' := [vI ((p : Nat) : Int), vI x, vR (some 92), vR (some 1)]) (h1 := HS t m) 2 (by rfl) ?_
  exact ev_callX rfl rfl (Nat.le_of_ble_eq_true rfl) (x_top92X2 hs hs.2.1 hp hI h) ⟨Nat.le_succ _, Nat.le_add_right _ _⟩ rfl
set_option maxRecDepth 10000 in
theorem x_top181 {L : Nat} {xs : Nat → Int32} {t : Bool × Nat × Nat} {m : mMM} {C : List Tx} {D : List (Int × Nat)} {S : List (Int × Int)} {k p : Nat} (hC : VC C) (hS : VS S) (hr : RC m C D) (hs : RS m S) (hl : LB9 m) (hk : k < 10) (hp : p < S.length) : ∃ m', Ev (PP L xs) 8 78 0 (entL 4 [vR (some 1), vR (some 181), vI (k : Int), vI (p : Int)]) [] (HS t m) (.inl (some (vI (spPath C S k p)))) (HS t m') ∧ LB9 m' ∧ ∀ b k, (b < 80 ∨ 188 ≤ b) → m' b k = m b k := by
  have h5n := hs.2.1
  obtain ⟨m1, hE1, hR1, hL1, hF1⟩ := x_rank181 (L := L) (xs := xs) (t := t) (d := 2) hC hS hr hs hl (by omega)
  have hn1 : m1 75 2 = (S.length : Int) := by rw [hF1 75 2 (by omega)]; exact hs.1
  refine ⟨m1, ?_, hL1, hF1⟩
  refine ev_go (pc' := 2) (ls' := [some (vR (some 1)), some (vR (some 181)), some (vI ((k : Nat) : Int)), some (vI ((p : Nat) : Int))]) (st' := [vI ((p : Nat) : Int), vR (some 1)]) (h1 := HS t m) 2 (by rfl) ?_
  refine ev_call rfl rfl (Nat.le_of_ble_eq_true rfl) (c_reqPlace hs.1 h5n hp) ⟨Nat.le_refl _, Nat.le_refl _⟩ ?_
  show Ev (PP L xs) _ 78 5 [some (vR (some 1)), some (vR (some 181)), some (vI ((k : Nat) : Int)), some (vI ((p : Nat) : Int))] [] (HS t m) _ _
  refine ev_go (pc' := 6) (ls' := [some (vR (some 1)), some (vR (some 181)), some (vI ((k : Nat) : Int)), some (vI ((p : Nat) : Int))]) (st' := [vI ((k : Nat) : Int)]) (h1 := HS t m) 1 (by rfl) ?_
  refine ev_call rfl rfl (Nat.le_of_ble_eq_true rfl) (c_reqRank hk) ⟨Nat.le_refl _, Nat.le_refl _⟩ ?_
  show Ev (PP L xs) _ 78 9 [some (vR (some 1)), some (vR (some 181)), some (vI ((k : Nat) : Int)), some (vI ((p : Nat) : Int))] [] (HS t m) _ _
  refine ev_go (pc' := 11) (ls' := [some (vR (some 1)), some (vR (some 181)), some (vI ((k : Nat) : Int)), some (vI ((p : Nat) : Int))]) (st' := [vR (some 181), vR (some 1)]) (h1 := HS t m) 2 (by rfl) ?_
  refine ev_call rfl rfl (Nat.le_of_ble_eq_true rfl) hE1 ⟨Nat.le_refl _, Nat.le_refl _⟩ ?_
  show Ev (PP L xs) _ 78 14 [some (vR (some 1)), some (vR (some 181)), some (vI ((k : Nat) : Int)), some (vI ((p : Nat) : Int))] [] (HS t m1) _ _
  refine ev_go (pc' := 15) (ls' := [some (vR (some 1)), some (vR (some 181)), some (vI ((k : Nat) : Int)), some (vI ((p : Nat) : Int))]) (st' := [vR (some 1)]) (h1 := HS t m1) 1 (by rfl) ?_
  refine ev_getR rfl rfl (rfl : rf 1 6 = some 185) ?_
  refine ev_go (pc' := 20) (ls' := [some (vR (some 1)), some (vR (some 181)), some (vI ((k : Nat) : Int)), some (vI ((p : Nat) : Int))]) (st' := [vR (some 1), vI ((k : Nat) : Int), vR (some 185)]) (h1 := HS t m1) 2 (by rfl) ?_
  refine ev_getR rfl rfl (rfl : rf 1 2 = some 75) ?_
  have hsz := c_se_size (L := L) (xs := xs) (d := 7) (t := t) (m := m1)
  rw [hn1] at hsz
  refine ev_call rfl rfl (Nat.le_of_ble_eq_true rfl) hsz ⟨Nat.le_refl _, Nat.le_refl _⟩ ?_
  show Ev (PP L xs) _ 78 26 [some (vR (some 1)), some (vR (some 181)), some (vI ((k : Nat) : Int)), some (vI ((p : Nat) : Int))] [vI (S.length : Int), vI ((k : Nat) : Int), vR (some 185)] (HS t m1) _ _
  refine ev_go (pc' := 30) (ls' := [some (vR (some 1)), some (vR (some 181)), some (vI ((k : Nat) : Int)), some (vI ((p : Nat) : Int))]) (st' := [vI (((S.length : Int) - 1) - ((p : Nat) : Int)), vI ((k : Nat) : Int), vR (some 185)]) (h1 := HS t m1) 4 (by rfl) ?_
  rw [show ((S.length : Int) - 1 - ((p : Nat) : Int)) = ((S.length - 1 - p : Nat) : Int) by omega]
  refine ev_call rfl rfl (Nat.le_of_ble_eq_true rfl) (x_tagOf hR1 (fun x hx => ⟨(LST_bd hC h5n hx).2.2.1, (LST_bd hC h5n hx).2.2.2⟩) hk (by omega)) ⟨Nat.le_refl _, Nat.le_refl _⟩ ?_
  show Ev (PP L xs) _ 78 33 [some (vR (some 1)), some (vR (some 181)), some (vI ((k : Nat) : Int)), some (vI ((p : Nat) : Int))] [vI (spPath C S k p)] (HS t m1) _ _
  exact ev_retE rfl rfl (by first | rfl | (simp [*]; done) | (split <;> first | rfl | (exfalso; omega))) (by first | rfl | (simp [*]; done) | (split <;> first | rfl | (exfalso; omega)))
set_option maxRecDepth 10000 in
theorem x_top181X1 {L : Nat} {xs : Nat → Int32} {t : Bool × Nat × Nat} {m : mMM} {S : List (Int × Int)} {x y : Int} (hs : RS m S) (hI : inI y = true) (h : y < 0 ∨ (S.length : Int) ≤ y) : Ev (PP L xs) 8 78 0 (entL 4 [vR (some 1), vR (some 181), vI x, vI y]) [] (HS t m) (.inr 2) (HS (tt t) m) := by
  refine ev_go (pc' := 2) (ls' := [some (vR (some 1)), some (vR (some 181)), some (vI x), some (vI y)]) (st' := [vI y, vR (some 1)]) (h1 := HS t m) 2 (by rfl) ?_
  exact ev_callX rfl rfl (Nat.le_of_ble_eq_true rfl) (c_reqPlaceX (by omega) hs.1 hs.2.1 hI h) ⟨Nat.le_succ _, Nat.le_add_right _ _⟩ rfl
set_option maxRecDepth 10000 in
theorem x_top181X2 {L : Nat} {xs : Nat → Int32} {t : Bool × Nat × Nat} {m : mMM} {S : List (Int × Int)} {p : Nat} {x : Int} (hs : RS m S) (h5n : S.length ≤ 5) (hp : p < S.length) (hI : inI x = true) (h : x < 0 ∨ 10 ≤ x) : Ev (PP L xs) 8 78 0 (entL 4 [vR (some 1), vR (some 181), vI x, vI ((p : Nat) : Int)]) [] (HS t m) (.inr 2) (HS (tt t) m) := by
  refine ev_go (pc' := 2) (ls' := [some (vR (some 1)), some (vR (some 181)), some (vI x), some (vI ((p : Nat) : Int))]) (st' := [vI ((p : Nat) : Int), vR (some 1)]) (h1 := HS t m) 2 (by rfl) ?_
  refine ev_call rfl rfl (Nat.le_of_ble_eq_true rfl) (c_reqPlace hs.1 h5n hp) ⟨Nat.le_refl _, Nat.le_refl _⟩ ?_
  show Ev (PP L xs) _ 78 5 [some (vR (some 1)), some (vR (some 181)), some (vI x), some (vI ((p : Nat) : Int))] [] (HS t m) _ _
  refine ev_go (pc' := 6) (ls' := [some (vR (some 1)), some (vR (some 181)), some (vI x), some (vI ((p : Nat) : Int))]) (st' := [vI x]) (h1 := HS t m) 1 (by rfl) ?_
  exact ev_callX rfl rfl (Nat.le_of_ble_eq_true rfl) (c_reqRankX (by omega) hI h) ⟨Nat.le_succ _, Nat.le_add_right _ _⟩ rfl
set_option maxRecDepth 10000 in
theorem x_pathAnew {L : Nat} {xs : Nat → Int32} {t : Bool × Nat × Nat} {m : mMM} {C : List Tx} {D : List (Int × Nat)} {S : List (Int × Int)} {k p : Nat} (hC : VC C) (hS : VS S) (hr : RC m C D) (hs : RS m S) (hl : LB9 m) (hk : k < 10) (hp : p < S.length) : ∃ m', Ev (PP L xs) 9 72 0 (entL 3 [vR (some 1), vI (k : Int), vI (p : Int)]) [] (HS t m) (.inl (some (vI (spPath C S k p)))) (HS t m') ∧ LB9 m' ∧ ∀ b k, (b < 80 ∨ 188 ≤ b) → m' b k = m b k := by
  obtain ⟨m1, hE1, hL1, hF1⟩ := x_top181 (L := L) (xs := xs) (t := t) hC hS hr hs hl hk hp
  refine ⟨m1, ?_, hL1, hF1⟩
  refine ev_go (pc' := 2) (ls' := [some (vR (some 1)), some (vI ((k : Nat) : Int)), some (vI ((p : Nat) : Int))]) (st' := [vR (some 1), vR (some 1)]) (h1 := HS t m) 2 (by rfl) ?_
  refine ev_getR rfl rfl (rfl : rf 1 5 = some 181) ?_
  refine ev_go (pc' := 7) (ls' := [some (vR (some 1)), some (vI ((k : Nat) : Int)), some (vI ((p : Nat) : Int))]) (st' := [vI ((p : Nat) : Int), vI ((k : Nat) : Int), vR (some 181), vR (some 1)]) (h1 := HS t m) 2 (by rfl) ?_
  refine ev_call rfl rfl (Nat.le_of_ble_eq_true rfl) hE1 ⟨Nat.le_refl _, Nat.le_refl _⟩ ?_
  show Ev (PP L xs) _ 72 10 [some (vR (some 1)), some (vI ((k : Nat) : Int)), some (vI ((p : Nat) : Int))] [vI (spPath C S k p)] (HS t m1) _ _
  exact ev_retE rfl rfl (by first | rfl | (simp [*]; done) | (split <;> first | rfl | (exfalso; omega))) (by first | rfl | (simp [*]; done) | (split <;> first | rfl | (exfalso; omega)))
set_option maxRecDepth 10000 in
theorem x_pathAnewX1 {L : Nat} {xs : Nat → Int32} {t : Bool × Nat × Nat} {m : mMM} {S : List (Int × Int)} {x y : Int} (hs : RS m S) (hI : inI y = true) (h : y < 0 ∨ (S.length : Int) ≤ y) : Ev (PP L xs) 9 72 0 (entL 3 [vR (some 1), vI x, vI y]) [] (HS t m) (.inr 2) (HS (tt t) m) := by
  refine ev_go (pc' := 2) (ls' := [some (vR (some 1)), some (vI x), some (vI y)]) (st' := [vR (some 1), vR (some 1)]) (h1 := HS t m) 2 (by rfl) ?_
  refine ev_getR rfl rfl (rfl : rf 1 5 = some 181) ?_
  refine ev_go (pc' := 7) (ls' := [some (vR (some 1)), some (vI x), some (vI y)]) (st' := [vI y, vI x, vR (some 181), vR (some 1)]) (h1 := HS t m) 2 (by rfl) ?_
  exact ev_callX rfl rfl (Nat.le_of_ble_eq_true rfl) (x_top181X1 hs hI h) ⟨Nat.le_succ _, Nat.le_add_right _ _⟩ rfl
set_option maxRecDepth 10000 in
theorem x_pathAnewX2 {L : Nat} {xs : Nat → Int32} {t : Bool × Nat × Nat} {m : mMM} {S : List (Int × Int)} {p : Nat} {x : Int} (hs : RS m S) (hp : p < S.length) (hI : inI x = true) (h : x < 0 ∨ 10 ≤ x) : Ev (PP L xs) 9 72 0 (entL 3 [vR (some 1), vI x, vI ((p : Nat) : Int)]) [] (HS t m) (.inr 2) (HS (tt t) m) := by
  refine ev_go (pc' := 2) (ls' := [some (vR (some 1)), some (vI x), some (vI ((p : Nat) : Int))]) (st' := [vR (some 1), vR (some 1)]) (h1 := HS t m) 2 (by rfl) ?_
  refine ev_getR rfl rfl (rfl : rf 1 5 = some 181) ?_
  refine ev_go (pc' := 7) (ls' := [some (vR (some 1)), some (vI x), some (vI ((p : Nat) : Int))]) (st' := [vI ((p : Nat) : Int), vI x, vR (some 181), vR (some 1)]) (h1 := HS t m) 2 (by rfl) ?_
  exact ev_callX rfl rfl (Nat.le_of_ble_eq_true rfl) (x_top181X2 hs hs.2.1 hp hI h) ⟨Nat.le_succ _, Nat.le_add_right _ _⟩ rfl
set_option maxRecDepth 10000 in
theorem x_productX2 {L : Nat} {xs : Nat → Int32} {t : Bool × Nat × Nat} {m : mMM} {x : Int} (hI : inI x = true) (h : x < 0 ∨ 10 ≤ x) : Ev (PP L xs) 9 73 0 (entL 2 [vR (some 1), vI x]) [] (HS t m) (.inr 2) (HS (tt t) m) := by
  refine ev_go (pc' := 1) (ls' := [some (vR (some 1)), some (vI x)]) (st' := [vI x]) (h1 := HS t m) 1 (by rfl) ?_
  exact ev_callX rfl rfl (Nat.le_of_ble_eq_true rfl) (c_reqRankX (by omega) hI h) ⟨Nat.le_succ _, Nat.le_add_right _ _⟩ rfl
set_option maxRecDepth 10000 in
theorem x_productX1 {L : Nat} {xs : Nat → Int32} {t : Bool × Nat × Nat} {m : mMM} {k : Nat} (hk : k < 10) (hn : m 75 2 = 0) : Ev (PP L xs) 9 73 0 (entL 2 [vR (some 1), vI ((k : Nat) : Int)]) [] (HS t m) (.inr 1) (HS (tt t) m) := by
  refine ev_go (pc' := 1) (ls' := [some (vR (some 1)), some (vI ((k : Nat) : Int))]) (st' := [vI ((k : Nat) : Int)]) (h1 := HS t m) 1 (by rfl) ?_
  refine ev_call rfl rfl (Nat.le_of_ble_eq_true rfl) (c_reqRank hk) ⟨Nat.le_refl _, Nat.le_refl _⟩ ?_
  show Ev (PP L xs) _ 73 4 [some (vR (some 1)), some (vI ((k : Nat) : Int))] [] (HS t m) _ _
  refine ev_go (pc' := 5) (ls' := [some (vR (some 1)), some (vI ((k : Nat) : Int))]) (st' := [vR (some 1)]) (h1 := HS t m) 1 (by rfl) ?_
  exact ev_callX rfl rfl (Nat.le_of_ble_eq_true rfl) (c_reqSentX (by omega) hn) ⟨Nat.le_succ _, Nat.le_add_right _ _⟩ rfl
set_option maxRecDepth 10000 in
theorem x_product {L : Nat} {xs : Nat → Int32} {t : Bool × Nat × Nat} {m : mMM} {C : List Tx} {D : List (Int × Nat)} {S : List (Int × Int)} {k : Nat} (hC : VC C) (hS : VS S) (hr : RC m C D) (hs : RS m S) (hl : LB9 m) (hk : k < 10) (h0 : 0 < S.length) : ∃ m', Ev (PP L xs) 9 73 0 (entL 2 [vR (some 1), vI (k : Int)]) [] (HS t m) (.inl (some (vJ (spProd C S k)))) (HS t m') ∧ LB9 m' ∧ ∀ b k, (b < 80 ∨ 188 ≤ b) → m' b k = m b k := by
  have h5n := hs.2.1
  obtain ⟨m1, hE1, hR1, hL1, hF1⟩ := x_rank92 (L := L) (xs := xs) (t := t) (d := 3) hC hS hr hs hl h0
  refine ⟨m1, ?_, hL1, hF1⟩
  refine ev_go (pc' := 1) (ls' := [some (vR (some 1)), some (vI ((k : Nat) : Int))]) (st' := [vI ((k : Nat) : Int)]) (h1 := HS t m) 1 (by rfl) ?_
  refine ev_call rfl rfl (Nat.le_of_ble_eq_true rfl) (c_reqRank hk) ⟨Nat.le_refl _, Nat.le_refl _⟩ ?_
  show Ev (PP L xs) _ 73 4 [some (vR (some 1)), some (vI ((k : Nat) : Int))] [] (HS t m) _ _
  refine ev_go (pc' := 5) (ls' := [some (vR (some 1)), some (vI ((k : Nat) : Int))]) (st' := [vR (some 1)]) (h1 := HS t m) 1 (by rfl) ?_
  refine ev_call rfl rfl (Nat.le_of_ble_eq_true rfl) (c_reqSent hs.1 h5n h0) ⟨Nat.le_refl _, Nat.le_refl _⟩ ?_
  show Ev (PP L xs) _ 73 8 [some (vR (some 1)), some (vI ((k : Nat) : Int))] [] (HS t m) _ _
  refine ev_go (pc' := 10) (ls' := [some (vR (some 1)), some (vI ((k : Nat) : Int))]) (st' := [vR (some 1), vR (some 1)]) (h1 := HS t m) 2 (by rfl) ?_
  refine ev_getR rfl rfl (rfl : rf 1 4 = some 92) ?_
  refine ev_call rfl rfl (Nat.le_of_ble_eq_true rfl) hE1 ⟨Nat.le_refl _, Nat.le_refl _⟩ ?_
  show Ev (PP L xs) _ 73 16 [some (vR (some 1)), some (vI ((k : Nat) : Int))] [] (HS t m1) _ _
  refine ev_go (pc' := 17) (ls' := [some (vR (some 1)), some (vI ((k : Nat) : Int))]) (st' := [vR (some 1)]) (h1 := HS t m1) 1 (by rfl) ?_
  refine ev_getR rfl rfl (rfl : rf 1 6 = some 185) ?_
  refine ev_go (pc' := 21) (ls' := [some (vR (some 1)), some (vI ((k : Nat) : Int))]) (st' := [vI ((k : Nat) : Int), vR (some 185)]) (h1 := HS t m1) 1 (by rfl) ?_
  refine ev_call rfl rfl (Nat.le_of_ble_eq_true rfl) (x_weightOf hR1 hk) ⟨Nat.le_refl _, Nat.le_refl _⟩ ?_
  show Ev (PP L xs) _ 73 24 [some (vR (some 1)), some (vI ((k : Nat) : Int))] [vJ (spProd C S k)] (HS t m1) _ _
  exact ev_retE rfl rfl (by first | rfl | (simp [*]; done) | (split <;> first | rfl | (exfalso; omega))) (by first | rfl | (simp [*]; done) | (split <;> first | rfl | (exfalso; omega)))
set_option maxRecDepth 10000 in
theorem x_costX1 {L : Nat} {xs : Nat → Int32} {t : Bool × Nat × Nat} {m : mMM} (hn : m 75 2 = 0) : Ev (PP L xs) 9 74 0 (entL 1 [vR (some 1)]) [] (HS t m) (.inr 1) (HS (tt t) m) := by
  refine ev_go (pc' := 1) (ls' := [some (vR (some 1))]) (st' := [vR (some 1)]) (h1 := HS t m) 1 (by rfl) ?_
  exact ev_callX rfl rfl (Nat.le_of_ble_eq_true rfl) (c_reqSentX (by omega) hn) ⟨Nat.le_succ _, Nat.le_add_right _ _⟩ rfl
set_option maxRecDepth 10000 in
theorem x_cost {L : Nat} {xs : Nat → Int32} {t : Bool × Nat × Nat} {m : mMM} {C : List Tx} {D : List (Int × Nat)} {S : List (Int × Int)} (hC : VC C) (hS : VS S) (hr : RC m C D) (hs : RS m S) (hl : LB9 m) (h0 : 0 < S.length) : ∃ m', Ev (PP L xs) 9 74 0 (entL 1 [vR (some 1)]) [] (HS t m) (.inl (some (vI (dbF 60 (spProd C S 0))))) (HS t m') ∧ LB9 m' ∧ ∀ b k, (b < 80 ∨ 188 ≤ b) → m' b k = m b k := by
  have h5n := hs.2.1
  obtain ⟨m1, hE1, hR1, hL1, hF1⟩ := x_rank92 (L := L) (xs := xs) (t := t) (d := 3) hC hS hr hs hl h0
  refine ⟨m1, ?_, hL1, hF1⟩
  refine ev_go (pc' := 1) (ls' := [some (vR (some 1))]) (st' := [vR (some 1)]) (h1 := HS t m) 1 (by rfl) ?_
  refine ev_call rfl rfl (Nat.le_of_ble_eq_true rfl) (c_reqSent hs.1 h5n h0) ⟨Nat.le_refl _, Nat.le_refl _⟩ ?_
  show Ev (PP L xs) _ 74 4 [some (vR (some 1))] [] (HS t m) _ _
  refine ev_go (pc' := 6) (ls' := [some (vR (some 1))]) (st' := [vR (some 1), vR (some 1)]) (h1 := HS t m) 2 (by rfl) ?_
  refine ev_getR rfl rfl (rfl : rf 1 4 = some 92) ?_
  refine ev_call rfl rfl (Nat.le_of_ble_eq_true rfl) hE1 ⟨Nat.le_refl _, Nat.le_refl _⟩ ?_
  show Ev (PP L xs) _ 74 12 [some (vR (some 1))] [] (HS t m1) _ _
  refine ev_go (pc' := 13) (ls' := [some (vR (some 1))]) (st' := [vR (some 1)]) (h1 := HS t m1) 1 (by rfl) ?_
  refine ev_getR rfl rfl (rfl : rf 1 6 = some 185) ?_
  refine ev_go (pc' := 17) (ls' := [some (vR (some 1))]) (st' := [vI 0, vR (some 185)]) (h1 := HS t m1) 1 (by rfl) ?_
  refine ev_call rfl rfl (Nat.le_of_ble_eq_true rfl) (x_weightOf (k := 0) hR1 (by decide)) ⟨Nat.le_refl _, Nat.le_refl _⟩ ?_
  show Ev (PP L xs) _ 74 20 [some (vR (some 1))] [vJ (spProd C S 0)] (HS t m1) _ _
  have hpb := spProd_bd hC h5n 0
  refine ev_call rfl rfl (Nat.le_of_ble_eq_true rfl) (c_doub hpb.1 (by omega)) ⟨Nat.le_refl _, Nat.le_refl _⟩ ?_
  show Ev (PP L xs) _ 74 23 [some (vR (some 1))] [vI (dbF 60 (spProd C S 0))] (HS t m1) _ _
  exact ev_retE rfl rfl (by first | rfl | (simp [*]; done) | (split <;> first | rfl | (exfalso; omega))) (by first | rfl | (simp [*]; done) | (split <;> first | rfl | (exfalso; omega)))
set_option maxRecDepth 10000 in
theorem x_sot92 {L : Nat} {xs : Nat → Int32} {t : Bool × Nat × Nat} {m : mMM} {C : List Tx} {D : List (Int × Nat)} {S : List (Int × Int)} {p g : Nat} (hC : VC C) (hS : VS S) (hr : RC m C D) (hs : RS m S) (hl : LB9 m) (hp : p < S.length) (hg : g < 5) : ∃ m', Ev (PP L xs) 8 80 0 (entL 4 [vR (some 1), vR (some 92), vI (p : Int), vI (g : Int)]) [] (HS t m) (.inl (some (vI (spShare C S p g)))) (HS t m') ∧ LB9 m' ∧ ∀ b k, (b < 80 ∨ 190 ≤ b) → m' b k = m b k := by
  have h5n := hs.2.1
  obtain ⟨m1, hE1, h1, h2, h3, h4, h5, h6⟩ := x_weighAll (L := L) (xs := xs) (t := t) (d := 4) hC hS hr hs hl
  have hn1 : m1 75 2 = (S.length : Int) := by rw [h6 75 2 (by omega)]; exact hs.1
  obtain ⟨m2, hE2, hR2, hF2⟩ := c_sumInto (L := L) (xs := xs) (t := t) (d := 4) (P := p) (c := S.length - p) hn1 h5n (by omega) (by omega) h1 h2
  have hv : ∀ g, g < 5 → m2 189 g = PS (sA0 C S) (sAA C S) S.length (S.length - 1 - p) g := fun g hg => by rw [hR2 g hg, PS_eq (n := S.length) hg (by omega), show S.length - p - 1 = S.length - 1 - p by omega]; exact PS_congr h4 _ _
  have hG : ∀ b k, (b < 93 ∨ 190 ≤ b) → m2 b k = m1 b k := fun b k hb => hF2 b k (by omega) (by omega) (by omega)
  have hvg := hv g hg
  have htot : m2 189 0 + m2 189 1 + m2 189 2 + m2 189 3 + m2 189 4 = TOT C S := by
    rw [hv 0 (by omega), hv 1 (by omega), hv 2 (by omega), hv 3 (by omega), hv 4 (by omega)]
    exact PS_all S.length (S.length - 1 - p)
  have hb := PS_bd (AB_s hC S) h5n (S.length - 1 - p) g
  have hb2 := all_bd (AB_s hC S) h5n
  have hb3 := TOT_pos hC hS
  refine ⟨m2, ?_, LB9_fr (fun b k x y => hG b k (by omega)) h5, fun b k hb => (hG b k (by omega)).trans (h6 b k (by omega))⟩
  refine ev_go (pc' := 2) (ls' := [some (vR (some 1)), some (vR (some 92)), some (vI ((p : Nat) : Int)), some (vI ((g : Nat) : Int))]) (st' := [vI ((p : Nat) : Int), vR (some 1)]) (h1 := HS t m) 2 (by rfl) ?_
  refine ev_call rfl rfl (Nat.le_of_ble_eq_true rfl) (c_reqPlace hs.1 h5n hp) ⟨Nat.le_refl _, Nat.le_refl _⟩ ?_
  show Ev (PP L xs) _ 80 5 [some (vR (some 1)), some (vR (some 92)), some (vI ((p : Nat) : Int)), some (vI ((g : Nat) : Int))] [] (HS t m) _ _
  refine ev_go (pc' := 6) (ls' := [some (vR (some 1)), some (vR (some 92)), some (vI ((p : Nat) : Int)), some (vI ((g : Nat) : Int))]) (st' := [vI ((g : Nat) : Int)]) (h1 := HS t m) 1 (by rfl) ?_
  refine ev_call rfl rfl (Nat.le_of_ble_eq_true rfl) (c_reqTag hg) ⟨Nat.le_refl _, Nat.le_refl _⟩ ?_
  show Ev (PP L xs) _ 80 9 [some (vR (some 1)), some (vR (some 92)), some (vI ((p : Nat) : Int)), some (vI ((g : Nat) : Int))] [] (HS t m) _ _
  refine ev_go (pc' := 10) (ls' := [some (vR (some 1)), some (vR (some 92)), some (vI ((p : Nat) : Int)), some (vI ((g : Nat) : Int))]) (st' := [vR (some 1)]) (h1 := HS t m) 1 (by rfl) ?_
  refine ev_getR rfl rfl (rfl : rf 1 3 = some 78) ?_
  refine ev_call rfl rfl (Nat.le_of_ble_eq_true rfl) hE1 ⟨Nat.le_refl _, Nat.le_refl _⟩ ?_
  show Ev (PP L xs) _ 80 16 [some (vR (some 1)), some (vR (some 92)), some (vI ((p : Nat) : Int)), some (vI ((g : Nat) : Int))] [] (HS t m1) _ _
  refine ev_go (pc' := 18) (ls' := [some (vR (some 1)), some (vR (some 92)), some (vI ((p : Nat) : Int)), some (vI ((g : Nat) : Int))]) (st' := [vR (some 1), vR (some 92)]) (h1 := HS t m1) 2 (by rfl) ?_
  refine ev_getR rfl rfl (rfl : rf 1 8 = some 189) ?_
  refine ev_go (pc' := 22) (ls' := [some (vR (some 1)), some (vR (some 92)), some (vI ((p : Nat) : Int)), some (vI ((g : Nat) : Int))]) (st' := [vI ((p : Nat) : Int), vR (some 189), vR (some 92)]) (h1 := HS t m1) 1 (by rfl) ?_
  refine ev_call rfl rfl (Nat.le_of_ble_eq_true rfl) hE2 ⟨Nat.le_refl _, Nat.le_refl _⟩ ?_
  show Ev (PP L xs) _ 80 25 [some (vR (some 1)), some (vR (some 92)), some (vI ((p : Nat) : Int)), some (vI ((g : Nat) : Int))] [] (HS t m2) _ _
  refine ev_go (pc' := 26) (ls' := [some (vR (some 1)), some (vR (some 92)), some (vI ((p : Nat) : Int)), some (vI ((g : Nat) : Int))]) (st' := [vR (some 1)]) (h1 := HS t m2) 1 (by rfl) ?_
  refine ev_getR rfl rfl (rfl : rf 1 8 = some 189) ?_
  refine ev_go (pc' := 30) (ls' := [some (vR (some 1)), some (vR (some 92)), some (vI ((p : Nat) : Int)), some (vI ((g : Nat) : Int))]) (st' := [vI ((g : Nat) : Int), vR (some 189)]) (h1 := HS t m2) 1 (by rfl) ?_
  refine ev_laldv (k := g) (v := (PS (sA0 C S) (sAA C S) S.length (S.length - 1 - p) g)) rfl rfl rfl (by omega) (hvg) ?_
  refine ev_go (pc' := 32) (ls' := [some (vR (some 1)), some (vR (some 92)), some (vI ((p : Nat) : Int)), some (vI ((g : Nat) : Int))]) (st' := [vR (some 1), vJ (PS (sA0 C S) (sAA C S) S.length (S.length - 1 - p) g)]) (h1 := HS t m2) 1 (by rfl) ?_
  refine ev_getR rfl rfl (rfl : rf 1 8 = some 189) ?_
  have hto := c_total (L := L) (xs := xs) (t := t) (d := 7) (m := m2)
  rw [htot] at hto
  refine ev_call rfl rfl (Nat.le_of_ble_eq_true rfl) hto ⟨Nat.le_refl _, Nat.le_refl _⟩ ?_
  show Ev (PP L xs) _ 80 38 [some (vR (some 1)), some (vR (some 92)), some (vI ((p : Nat) : Int)), some (vI ((g : Nat) : Int))] [vJ (TOT C S), vJ (PS (sA0 C S) (sAA C S) S.length (S.length - 1 - p) g)] (HS t m2) _ _
  refine ev_call rfl rfl (Nat.le_of_ble_eq_true rfl) (c_thou hb.1 hb.2 hb2.2 hb3) ⟨Nat.le_refl _, Nat.le_refl _⟩ ?_
  show Ev (PP L xs) _ 80 41 [some (vR (some 1)), some (vR (some 92)), some (vI ((p : Nat) : Int)), some (vI ((g : Nat) : Int))] [vI (spShare C S p g)] (HS t m2) _ _
  exact ev_retE rfl rfl (by first | rfl | (simp [*]; done) | (split <;> first | rfl | (exfalso; omega))) (by first | rfl | (simp [*]; done) | (split <;> first | rfl | (exfalso; omega)))
set_option maxRecDepth 10000 in
theorem x_sot92X1 {L : Nat} {xs : Nat → Int32} {t : Bool × Nat × Nat} {m : mMM} {S : List (Int × Int)} {x y : Int} (hs : RS m S) (hI : inI x = true) (h : x < 0 ∨ (S.length : Int) ≤ x) : Ev (PP L xs) 8 80 0 (entL 4 [vR (some 1), vR (some 92), vI x, vI y]) [] (HS t m) (.inr 2) (HS (tt t) m) := by
  refine ev_go (pc' := 2) (ls' := [some (vR (some 1)), some (vR (some 92)), some (vI x), some (vI y)]) (st' := [vI x, vR (some 1)]) (h1 := HS t m) 2 (by rfl) ?_
  exact ev_callX rfl rfl (Nat.le_of_ble_eq_true rfl) (c_reqPlaceX (by omega) hs.1 hs.2.1 hI h) ⟨Nat.le_succ _, Nat.le_add_right _ _⟩ rfl
set_option maxRecDepth 10000 in
theorem x_sot92X2 {L : Nat} {xs : Nat → Int32} {t : Bool × Nat × Nat} {m : mMM} {S : List (Int × Int)} {p : Nat} {y : Int} (hs : RS m S) (h5n : S.length ≤ 5) (hp : p < S.length) (hI : inI y = true) (h : y < 0 ∨ 5 ≤ y) : Ev (PP L xs) 8 80 0 (entL 4 [vR (some 1), vR (some 92), vI ((p : Nat) : Int), vI y]) [] (HS t m) (.inr 2) (HS (tt t) m) := by
  refine ev_go (pc' := 2) (ls' := [some (vR (some 1)), some (vR (some 92)), some (vI ((p : Nat) : Int)), some (vI y)]) (st' := [vI ((p : Nat) : Int), vR (some 1)]) (h1 := HS t m) 2 (by rfl) ?_
  refine ev_call rfl rfl (Nat.le_of_ble_eq_true rfl) (c_reqPlace hs.1 h5n hp) ⟨Nat.le_refl _, Nat.le_refl _⟩ ?_
  show Ev (PP L xs) _ 80 5 [some (vR (some 1)), some (vR (some 92)), some (vI ((p : Nat) : Int)), some (vI y)] [] (HS t m) _ _
  refine ev_go (pc' := 6) (ls' := [some (vR (some 1)), some (vR (some 92)), some (vI ((p : Nat) : Int)), some (vI y)]) (st' := [vI y]) (h1 := HS t m) 1 (by rfl) ?_
  exact ev_callX rfl rfl (Nat.le_of_ble_eq_true rfl) (c_reqTagX (by omega) hI h) ⟨Nat.le_succ _, Nat.le_add_right _ _⟩ rfl
set_option maxRecDepth 10000 in
theorem x_share {L : Nat} {xs : Nat → Int32} {t : Bool × Nat × Nat} {m : mMM} {C : List Tx} {D : List (Int × Nat)} {S : List (Int × Int)} {p g : Nat} (hC : VC C) (hS : VS S) (hr : RC m C D) (hs : RS m S) (hl : LB9 m) (hp : p < S.length) (hg : g < 5) : ∃ m', Ev (PP L xs) 9 75 0 (entL 3 [vR (some 1), vI (p : Int), vI (g : Int)]) [] (HS t m) (.inl (some (vI (spShare C S p g)))) (HS t m') ∧ LB9 m' ∧ ∀ b k, (b < 80 ∨ 190 ≤ b) → m' b k = m b k := by
  obtain ⟨m1, hE1, hL1, hF1⟩ := x_sot92 (L := L) (xs := xs) (t := t) hC hS hr hs hl hp hg
  refine ⟨m1, ?_, hL1, hF1⟩
  refine ev_go (pc' := 2) (ls' := [some (vR (some 1)), some (vI ((p : Nat) : Int)), some (vI ((g : Nat) : Int))]) (st' := [vR (some 1), vR (some 1)]) (h1 := HS t m) 2 (by rfl) ?_
  refine ev_getR rfl rfl (rfl : rf 1 4 = some 92) ?_
  refine ev_go (pc' := 7) (ls' := [some (vR (some 1)), some (vI ((p : Nat) : Int)), some (vI ((g : Nat) : Int))]) (st' := [vI ((g : Nat) : Int), vI ((p : Nat) : Int), vR (some 92), vR (some 1)]) (h1 := HS t m) 2 (by rfl) ?_
  refine ev_call rfl rfl (Nat.le_of_ble_eq_true rfl) hE1 ⟨Nat.le_refl _, Nat.le_refl _⟩ ?_
  show Ev (PP L xs) _ 75 10 [some (vR (some 1)), some (vI ((p : Nat) : Int)), some (vI ((g : Nat) : Int))] [vI (spShare C S p g)] (HS t m1) _ _
  exact ev_retE rfl rfl (by first | rfl | (simp [*]; done) | (split <;> first | rfl | (exfalso; omega))) (by first | rfl | (simp [*]; done) | (split <;> first | rfl | (exfalso; omega)))
set_option maxRecDepth 10000 in
theorem x_shareX1 {L : Nat} {xs : Nat → Int32} {t : Bool × Nat × Nat} {m : mMM} {S : List (Int × Int)} {x y : Int} (hs : RS m S) (hI : inI x = true) (h : x < 0 ∨ (S.length : Int) ≤ x) : Ev (PP L xs) 9 75 0 (entL 3 [vR (some 1), vI x, vI y]) [] (HS t m) (.inr 2) (HS (tt t) m) := by
  refine ev_go (pc' := 2) (ls' := [some (vR (some 1)), some (vI x), some (vI y)]) (st' := [vR (some 1), vR (some 1)]) (h1 := HS t m) 2 (by rfl) ?_
  refine ev_getR rfl rfl (rfl : rf 1 4 = some 92) ?_
  refine ev_go (pc' := 7) (ls' := [some (vR (some 1)), some (vI x), some (vI y)]) (st' := [vI y, vI x, vR (some 92), vR (some 1)]) (h1 := HS t m) 2 (by rfl) ?_
  exact ev_callX rfl rfl (Nat.le_of_ble_eq_true rfl) (x_sot92X1 hs hI h) ⟨Nat.le_succ _, Nat.le_add_right _ _⟩ rfl
set_option maxRecDepth 10000 in
theorem x_shareX2 {L : Nat} {xs : Nat → Int32} {t : Bool × Nat × Nat} {m : mMM} {S : List (Int × Int)} {p : Nat} {y : Int} (hs : RS m S) (hp : p < S.length) (hI : inI y = true) (h : y < 0 ∨ 5 ≤ y) : Ev (PP L xs) 9 75 0 (entL 3 [vR (some 1), vI ((p : Nat) : Int), vI y]) [] (HS t m) (.inr 2) (HS (tt t) m) := by
  refine ev_go (pc' := 2) (ls' := [some (vR (some 1)), some (vI ((p : Nat) : Int)), some (vI y)]) (st' := [vR (some 1), vR (some 1)]) (h1 := HS t m) 2 (by rfl) ?_
  refine ev_getR rfl rfl (rfl : rf 1 4 = some 92) ?_
  refine ev_go (pc' := 7) (ls' := [some (vR (some 1)), some (vI ((p : Nat) : Int)), some (vI y)]) (st' := [vI y, vI ((p : Nat) : Int), vR (some 92), vR (some 1)]) (h1 := HS t m) 2 (by rfl) ?_
  exact ev_callX rfl rfl (Nat.le_of_ble_eq_true rfl) (x_sot92X2 hs hs.2.1 hp hI h) ⟨Nat.le_succ _, Nat.le_add_right _ _⟩ rfl
set_option maxRecDepth 10000 in
theorem x_sot181 {L : Nat} {xs : Nat → Int32} {t : Bool × Nat × Nat} {m : mMM} {C : List Tx} {D : List (Int × Nat)} {S : List (Int × Int)} {p g : Nat} (hC : VC C) (hS : VS S) (hr : RC m C D) (hs : RS m S) (hl : LB9 m) (hp : p < S.length) (hg : g < 5) : ∃ m', Ev (PP L xs) 8 80 0 (entL 4 [vR (some 1), vR (some 181), vI (p : Int), vI (g : Int)]) [] (HS t m) (.inl (some (vI (spShare C S p g)))) (HS t m') ∧ LB9 m' ∧ ∀ b k, (b < 80 ∨ 190 ≤ b) → m' b k = m b k := by
  have h5n := hs.2.1
  obtain ⟨m1, hE1, h1, h2, h3, h4, h5, h6⟩ := x_weighAll (L := L) (xs := xs) (t := t) (d := 4) hC hS hr hs hl
  have hn1 : m1 75 2 = (S.length : Int) := by rw [h6 75 2 (by omega)]; exact hs.1
  obtain ⟨m2, hE2, hR2, hF2⟩ := c_aSum (L := L) (xs := xs) (t := t) (d := 3) (P := p) hp h5n hn1 h1 h2
  have hv : ∀ g, g < 5 → m2 189 g = PS (sA0 C S) (sAA C S) S.length (S.length - 1 - p) g := fun g hg => by rw [hR2 g hg]; exact PS_congr h4 _ _
  have hG : ∀ b k, (b < 93 ∨ 190 ≤ b) → m2 b k = m1 b k := fun b k hb => hF2 b k (by omega) (by omega)
  have hvg := hv g hg
  have htot : m2 189 0 + m2 189 1 + m2 189 2 + m2 189 3 + m2 189 4 = TOT C S := by
    rw [hv 0 (by omega), hv 1 (by omega), hv 2 (by omega), hv 3 (by omega), hv 4 (by omega)]
    exact PS_all S.length (S.length - 1 - p)
  have hb := PS_bd (AB_s hC S) h5n (S.length - 1 - p) g
  have hb2 := all_bd (AB_s hC S) h5n
  have hb3 := TOT_pos hC hS
  refine ⟨m2, ?_, LB9_fr (fun b k x y => hG b k (by omega)) h5, fun b k hb => (hG b k (by omega)).trans (h6 b k (by omega))⟩
  refine ev_go (pc' := 2) (ls' := [some (vR (some 1)), some (vR (some 181)), some (vI ((p : Nat) : Int)), some (vI ((g : Nat) : Int))]) (st' := [vI ((p : Nat) : Int), vR (some 1)]) (h1 := HS t m) 2 (by rfl) ?_
  refine ev_call rfl rfl (Nat.le_of_ble_eq_true rfl) (c_reqPlace hs.1 h5n hp) ⟨Nat.le_refl _, Nat.le_refl _⟩ ?_
  show Ev (PP L xs) _ 80 5 [some (vR (some 1)), some (vR (some 181)), some (vI ((p : Nat) : Int)), some (vI ((g : Nat) : Int))] [] (HS t m) _ _
  refine ev_go (pc' := 6) (ls' := [some (vR (some 1)), some (vR (some 181)), some (vI ((p : Nat) : Int)), some (vI ((g : Nat) : Int))]) (st' := [vI ((g : Nat) : Int)]) (h1 := HS t m) 1 (by rfl) ?_
  refine ev_call rfl rfl (Nat.le_of_ble_eq_true rfl) (c_reqTag hg) ⟨Nat.le_refl _, Nat.le_refl _⟩ ?_
  show Ev (PP L xs) _ 80 9 [some (vR (some 1)), some (vR (some 181)), some (vI ((p : Nat) : Int)), some (vI ((g : Nat) : Int))] [] (HS t m) _ _
  refine ev_go (pc' := 10) (ls' := [some (vR (some 1)), some (vR (some 181)), some (vI ((p : Nat) : Int)), some (vI ((g : Nat) : Int))]) (st' := [vR (some 1)]) (h1 := HS t m) 1 (by rfl) ?_
  refine ev_getR rfl rfl (rfl : rf 1 3 = some 78) ?_
  refine ev_call rfl rfl (Nat.le_of_ble_eq_true rfl) hE1 ⟨Nat.le_refl _, Nat.le_refl _⟩ ?_
  show Ev (PP L xs) _ 80 16 [some (vR (some 1)), some (vR (some 181)), some (vI ((p : Nat) : Int)), some (vI ((g : Nat) : Int))] [] (HS t m1) _ _
  refine ev_go (pc' := 18) (ls' := [some (vR (some 1)), some (vR (some 181)), some (vI ((p : Nat) : Int)), some (vI ((g : Nat) : Int))]) (st' := [vR (some 1), vR (some 181)]) (h1 := HS t m1) 2 (by rfl) ?_
  refine ev_getR rfl rfl (rfl : rf 1 8 = some 189) ?_
  refine ev_go (pc' := 22) (ls' := [some (vR (some 1)), some (vR (some 181)), some (vI ((p : Nat) : Int)), some (vI ((g : Nat) : Int))]) (st' := [vI ((p : Nat) : Int), vR (some 189), vR (some 181)]) (h1 := HS t m1) 1 (by rfl) ?_
  refine ev_call rfl rfl (Nat.le_of_ble_eq_true rfl) hE2 ⟨Nat.le_refl _, Nat.le_refl _⟩ ?_
  show Ev (PP L xs) _ 80 25 [some (vR (some 1)), some (vR (some 181)), some (vI ((p : Nat) : Int)), some (vI ((g : Nat) : Int))] [] (HS t m2) _ _
  refine ev_go (pc' := 26) (ls' := [some (vR (some 1)), some (vR (some 181)), some (vI ((p : Nat) : Int)), some (vI ((g : Nat) : Int))]) (st' := [vR (some 1)]) (h1 := HS t m2) 1 (by rfl) ?_
  refine ev_getR rfl rfl (rfl : rf 1 8 = some 189) ?_
  refine ev_go (pc' := 30) (ls' := [some (vR (some 1)), some (vR (some 181)), some (vI ((p : Nat) : Int)), some (vI ((g : Nat) : Int))]) (st' := [vI ((g : Nat) : Int), vR (some 189)]) (h1 := HS t m2) 1 (by rfl) ?_
  refine ev_laldv (k := g) (v := (PS (sA0 C S) (sAA C S) S.length (S.length - 1 - p) g)) rfl rfl rfl (by omega) (hvg) ?_
  refine ev_go (pc' := 32) (ls' := [some (vR (some 1)), some (vR (some 181)), some (vI ((p : Nat) : Int)), some (vI ((g : Nat) : Int))]) (st' := [vR (some 1), vJ (PS (sA0 C S) (sAA C S) S.length (S.length - 1 - p) g)]) (h1 := HS t m2) 1 (by rfl) ?_
  refine ev_getR rfl rfl (rfl : rf 1 8 = some 189) ?_
  have hto := c_total (L := L) (xs := xs) (t := t) (d := 7) (m := m2)
  rw [htot] at hto
  refine ev_call rfl rfl (Nat.le_of_ble_eq_true rfl) hto ⟨Nat.le_refl _, Nat.le_refl _⟩ ?_
  show Ev (PP L xs) _ 80 38 [some (vR (some 1)), some (vR (some 181)), some (vI ((p : Nat) : Int)), some (vI ((g : Nat) : Int))] [vJ (TOT C S), vJ (PS (sA0 C S) (sAA C S) S.length (S.length - 1 - p) g)] (HS t m2) _ _
  refine ev_call rfl rfl (Nat.le_of_ble_eq_true rfl) (c_thou hb.1 hb.2 hb2.2 hb3) ⟨Nat.le_refl _, Nat.le_refl _⟩ ?_
  show Ev (PP L xs) _ 80 41 [some (vR (some 1)), some (vR (some 181)), some (vI ((p : Nat) : Int)), some (vI ((g : Nat) : Int))] [vI (spShare C S p g)] (HS t m2) _ _
  exact ev_retE rfl rfl (by first | rfl | (simp [*]; done) | (split <;> first | rfl | (exfalso; omega))) (by first | rfl | (simp [*]; done) | (split <;> first | rfl | (exfalso; omega)))
set_option maxRecDepth 10000 in
theorem x_sot181X1 {L : Nat} {xs : Nat → Int32} {t : Bool × Nat × Nat} {m : mMM} {S : List (Int × Int)} {x y : Int} (hs : RS m S) (hI : inI x = true) (h : x < 0 ∨ (S.length : Int) ≤ x) : Ev (PP L xs) 8 80 0 (entL 4 [vR (some 1), vR (some 181), vI x, vI y]) [] (HS t m) (.inr 2) (HS (tt t) m) := by
  refine ev_go (pc' := 2) (ls' := [some (vR (some 1)), some (vR (some 181)), some (vI x), some (vI y)]) (st' := [vI x, vR (some 1)]) (h1 := HS t m) 2 (by rfl) ?_
  exact ev_callX rfl rfl (Nat.le_of_ble_eq_true rfl) (c_reqPlaceX (by omega) hs.1 hs.2.1 hI h) ⟨Nat.le_succ _, Nat.le_add_right _ _⟩ rfl
set_option maxRecDepth 10000 in
theorem x_sot181X2 {L : Nat} {xs : Nat → Int32} {t : Bool × Nat × Nat} {m : mMM} {S : List (Int × Int)} {p : Nat} {y : Int} (hs : RS m S) (h5n : S.length ≤ 5) (hp : p < S.length) (hI : inI y = true) (h : y < 0 ∨ 5 ≤ y) : Ev (PP L xs) 8 80 0 (entL 4 [vR (some 1), vR (some 181), vI ((p : Nat) : Int), vI y]) [] (HS t m) (.inr 2) (HS (tt t) m) := by
  refine ev_go (pc' := 2) (ls' := [some (vR (some 1)), some (vR (some 181)), some (vI ((p : Nat) : Int)), some (vI y)]) (st' := [vI ((p : Nat) : Int), vR (some 1)]) (h1 := HS t m) 2 (by rfl) ?_
  refine ev_call rfl rfl (Nat.le_of_ble_eq_true rfl) (c_reqPlace hs.1 h5n hp) ⟨Nat.le_refl _, Nat.le_refl _⟩ ?_
  show Ev (PP L xs) _ 80 5 [some (vR (some 1)), some (vR (some 181)), some (vI ((p : Nat) : Int)), some (vI y)] [] (HS t m) _ _
  refine ev_go (pc' := 6) (ls' := [some (vR (some 1)), some (vR (some 181)), some (vI ((p : Nat) : Int)), some (vI y)]) (st' := [vI y]) (h1 := HS t m) 1 (by rfl) ?_
  exact ev_callX rfl rfl (Nat.le_of_ble_eq_true rfl) (c_reqTagX (by omega) hI h) ⟨Nat.le_succ _, Nat.le_add_right _ _⟩ rfl
set_option maxRecDepth 10000 in
theorem x_shareAnew {L : Nat} {xs : Nat → Int32} {t : Bool × Nat × Nat} {m : mMM} {C : List Tx} {D : List (Int × Nat)} {S : List (Int × Int)} {p g : Nat} (hC : VC C) (hS : VS S) (hr : RC m C D) (hs : RS m S) (hl : LB9 m) (hp : p < S.length) (hg : g < 5) : ∃ m', Ev (PP L xs) 9 76 0 (entL 3 [vR (some 1), vI (p : Int), vI (g : Int)]) [] (HS t m) (.inl (some (vI (spShare C S p g)))) (HS t m') ∧ LB9 m' ∧ ∀ b k, (b < 80 ∨ 190 ≤ b) → m' b k = m b k := by
  obtain ⟨m1, hE1, hL1, hF1⟩ := x_sot181 (L := L) (xs := xs) (t := t) hC hS hr hs hl hp hg
  refine ⟨m1, ?_, hL1, hF1⟩
  refine ev_go (pc' := 2) (ls' := [some (vR (some 1)), some (vI ((p : Nat) : Int)), some (vI ((g : Nat) : Int))]) (st' := [vR (some 1), vR (some 1)]) (h1 := HS t m) 2 (by rfl) ?_
  refine ev_getR rfl rfl (rfl : rf 1 5 = some 181) ?_
  refine ev_go (pc' := 7) (ls' := [some (vR (some 1)), some (vI ((p : Nat) : Int)), some (vI ((g : Nat) : Int))]) (st' := [vI ((g : Nat) : Int), vI ((p : Nat) : Int), vR (some 181), vR (some 1)]) (h1 := HS t m) 2 (by rfl) ?_
  refine ev_call rfl rfl (Nat.le_of_ble_eq_true rfl) hE1 ⟨Nat.le_refl _, Nat.le_refl _⟩ ?_
  show Ev (PP L xs) _ 76 10 [some (vR (some 1)), some (vI ((p : Nat) : Int)), some (vI ((g : Nat) : Int))] [vI (spShare C S p g)] (HS t m1) _ _
  exact ev_retE rfl rfl (by first | rfl | (simp [*]; done) | (split <;> first | rfl | (exfalso; omega))) (by first | rfl | (simp [*]; done) | (split <;> first | rfl | (exfalso; omega)))
set_option maxRecDepth 10000 in
theorem x_shareAnewX1 {L : Nat} {xs : Nat → Int32} {t : Bool × Nat × Nat} {m : mMM} {S : List (Int × Int)} {x y : Int} (hs : RS m S) (hI : inI x = true) (h : x < 0 ∨ (S.length : Int) ≤ x) : Ev (PP L xs) 9 76 0 (entL 3 [vR (some 1), vI x, vI y]) [] (HS t m) (.inr 2) (HS (tt t) m) := by
  refine ev_go (pc' := 2) (ls' := [some (vR (some 1)), some (vI x), some (vI y)]) (st' := [vR (some 1), vR (some 1)]) (h1 := HS t m) 2 (by rfl) ?_
  refine ev_getR rfl rfl (rfl : rf 1 5 = some 181) ?_
  refine ev_go (pc' := 7) (ls' := [some (vR (some 1)), some (vI x), some (vI y)]) (st' := [vI y, vI x, vR (some 181), vR (some 1)]) (h1 := HS t m) 2 (by rfl) ?_
  exact ev_callX rfl rfl (Nat.le_of_ble_eq_true rfl) (x_sot181X1 hs hI h) ⟨Nat.le_succ _, Nat.le_add_right _ _⟩ rfl
set_option maxRecDepth 10000 in
theorem x_shareAnewX2 {L : Nat} {xs : Nat → Int32} {t : Bool × Nat × Nat} {m : mMM} {S : List (Int × Int)} {p : Nat} {y : Int} (hs : RS m S) (hp : p < S.length) (hI : inI y = true) (h : y < 0 ∨ 5 ≤ y) : Ev (PP L xs) 9 76 0 (entL 3 [vR (some 1), vI ((p : Nat) : Int), vI y]) [] (HS t m) (.inr 2) (HS (tt t) m) := by
  refine ev_go (pc' := 2) (ls' := [some (vR (some 1)), some (vI ((p : Nat) : Int)), some (vI y)]) (st' := [vR (some 1), vR (some 1)]) (h1 := HS t m) 2 (by rfl) ?_
  refine ev_getR rfl rfl (rfl : rf 1 5 = some 181) ?_
  refine ev_go (pc' := 7) (ls' := [some (vR (some 1)), some (vI ((p : Nat) : Int)), some (vI y)]) (st' := [vI y, vI ((p : Nat) : Int), vR (some 181), vR (some 1)]) (h1 := HS t m) 2 (by rfl) ?_
  exact ev_callX rfl rfl (Nat.le_of_ble_eq_true rfl) (x_sot181X2 hs hs.2.1 hp hI h) ⟨Nat.le_succ _, Nat.le_add_right _ _⟩ rfl
