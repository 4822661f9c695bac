/-! ===== the walk over all paths: the best, the sums ===== -/
theorem pw_BD {a0 : Nat → Int} {aa : Nat → Nat → Nat → Int} (hB : AB a0 aa) {n : Nat} (hn : n ≤ 5) (q : Nat) : inJ (wt a0 aa n q) = true ∧ inI (cd n q) = true := by
  have h1 := wt_bd5 hB hn q
  have h3 := cd_bd5 hn q
  exact ⟨inJ_of (by omega) (by omega), inI_of (by omega) (by omega)⟩
theorem WQ_fr {m m' : mMM} {a0 : Nat → Int} {aa : Nat → Nat → Nat → Int} {n q f : Nat} (h : ∀ k, m' 182 k = m 182 k ∧ m' 183 k = m 183 k ∧ m' 184 k = m 184 k) (hw : WQ m a0 aa n q f) : WQ m' a0 aa n q f :=
  ⟨fun i hi => by rw [(h i).1]; exact hw.1 i hi, fun k hk => by rw [(h k).2.1, (h k).2.2]; exact hw.2 k hk⟩
theorem LBD_any {m m' : mMM} (h : ∀ b k, b < 93 → m' b k = m b k) (hb : LBD m) : LBD m' := ⟨fun p hp k hk => by rw [h (80 + p) k (by omega)]; exact hb.1 p hp k hk, fun r hr k hk => by rw [h (86 + r) k (by omega)]; exact hb.2 r hr k hk⟩
theorem ARC_any {m m' : mMM} {a0 : Nat → Int} {aa : Nat → Nat → Nat → Int} (h : ∀ b k, b < 93 → m' b k = m b k) (hb : ARC m a0 aa) : ARC m' a0 aa :=
  ⟨fun g hg => by rw [h 86 g (by omega), h 80 g (by omega)]; exact hb.1 g hg, fun p hp f hf g hg => by rw [h (86 + (f + 1)) g (by omega), h (80 + p) g (by omega)]; exact hb.2 p hp f hf g hg⟩
set_option maxRecDepth 10000 in
theorem l_aRank {L : Nat} {xs : Nat → Int32} {t : Bool × Nat × Nat} {d n : Nat} {a0 : Nat → Int} {aa : Nat → Nat → Nat → Int} (hB : AB a0 aa) (hn0 : 0 < n) (hn5 : n ≤ 5) : ∀ (c q : Nat) (l : List Pr) (m : mMM), q + c = 5 ^ n → m 75 2 = (n : Int) → LBD m → ARC m a0 aa → (0 < c → WQ m a0 aa n q n) → RK m 185 l → Srt l → BD l → ∃ m', Ev (PP L xs) (d + 4) 1 20 [some (vR (some 181)), some (vR (some 185)), some (vI ((n : Nat) : Int)), some (vI ((5 ^ n : Nat) : Int)), some (vI ((q : Nat) : Int))] [] (HS t m) (.inl none) (HS t m') ∧ RK m' 185 (((List.range' q c).map (pw a0 aa n)).foldl oL l) ∧ (∀ b k, (b < 182 ∨ 187 < b) → m' b k = m b k) := by
  intro c
  induction c with
  | zero =>
    intro q l m hq hn hlb ha hw hr hs hb
    have h5n := p5 n hn5
    have eq : q = 5 ^ n := by omega
    refine ⟨m, ?_, hr, fun _ _ _ => rfl⟩
    refine ev_go (pc' := 23) (ls' := [some (vR (some 181)), some (vR (some 185)), some (vI ((n : Nat) : Int)), some (vI ((5 ^ n : Nat) : Int)), some (vI ((q : Nat) : Int))]) (st' := [vI ((5 ^ n : Nat) : Int), vI ((q : Nat) : Int)]) (h1 := HS t m) 2 (by rfl) ?_
    refine ev_ic3 rfl (inI_of (by omega) (by omega)) (inI_of (by omega) (by omega)) (fun c23 => ?_) (fun c23 => absurd c23 (by omega))
    exact ev_retE rfl rfl (by first | rfl | (simp [*]; done) | (split <;> first | rfl | (exfalso; omega))) (by first | rfl | (simp [*]; done) | (split <;> first | rfl | (exfalso; omega)))
  | succ c IH =>
    intro q l m hq hn hlb ha hw hr hs hb
    have h5n := p5 n hn5
    have hwq := hw (by omega)
    have hwn := hwq.2 n (Nat.le_refl n)
    rw [Nat.sub_self, Nat.pow_zero, Nat.div_one] at hwn
    have hbd := pw_BD hB hn5 q
    obtain ⟨m1, hE1, hR1, hF1⟩ := c_off (L := L) (xs := xs) (t := t) (d := d + 2) (a := 185) (w := wt a0 aa n q) (p := cd n q) RKA_best hr hs hb hbd.1 hbd.2
    have hF1b : ∀ b k, b < 185 → m1 b k = m b k := fun b k h => hF1 b k (by omega) (by omega) (by omega)
    have hlb1 := LBD_any (fun b k h => hF1b b k (by omega)) hlb
    have ha1 := ARC_any (fun b k h => hF1b b k (by omega)) ha
    have hw1 : WQ m1 a0 aa n q n := WQ_fr (fun k => ⟨hF1b 182 k (by decide), hF1b 183 k (by decide), hF1b 184 k (by decide)⟩) hwq
    have hn1 : m1 75 2 = (n : Int) := by rw [hF1b 75 2 (by decide)]; exact hn
    obtain ⟨m2, hE2, hW2, hF2⟩ := c_goOn (L := L) (xs := xs) (t := t) (d := d) hn0 hn5 hn1 hlb1 ha1 hw1
    have hF2b : ∀ b k, b < 93 → m2 b k = m1 b k := fun b k h => hF2 b k (by omega) (by omega) (by omega)
    have hr2 : RK m2 185 (oL l (wt a0 aa n q, cd n q)) := ⟨by rw [hF2 185 2 (by decide) (by decide) (by decide)]; exact hR1.1, hR1.2.1, fun k hk => by rw [hF2 (185 + 1) k (by decide) (by decide) (by decide), hF2 (185 + 2) k (by decide) (by decide) (by decide)]; exact hR1.2.2 k hk⟩
    obtain ⟨m3, hE3, hR3, hF3⟩ := IH (q + 1) (oL l (wt a0 aa n q, cd n q)) m2 (by omega) (by rw [hF2b 75 2 (by decide)]; exact hn1) (LBD_any hF2b hlb1) (ARC_any hF2b ha1) (fun h => hW2 (by omega)) hr2 (Srt_oL hs _) (BD_oL hb hbd.1 hbd.2)
    rw [List.range'_succ, List.map_cons, List.foldl_cons]
    refine ⟨m3, ?_, hR3, fun b k h => (hF3 b k h).trans ((hF2 b k (by omega) (by omega) (by omega)).trans (hF1 b k (by omega) (by omega) (by omega)))⟩
    refine ev_go (pc' := 23) (ls' := [some (vR (some 181)), some (vR (some 185)), some (vI ((n : Nat) : Int)), some (vI ((5 ^ n : Nat) : Int)), some (vI ((q : Nat) : Int))]) (st' := [vI ((5 ^ n : Nat) : Int), vI ((q : Nat) : Int)]) (h1 := HS t m) 2 (by rfl) ?_
    refine ev_ic3 rfl (inI_of (by omega) (by omega)) (inI_of (by omega) (by omega)) (fun c23 => absurd c23 (by omega)) (fun c23 => ?_)
    refine ev_go (pc' := 28) (ls' := [some (vR (some 181)), some (vR (some 185)), some (vI ((n : Nat) : Int)), some (vI ((5 ^ n : Nat) : Int)), some (vI ((q : Nat) : Int))]) (st' := [vR (some 181), vR (some 185)]) (h1 := HS t m) 2 (by rfl) ?_
    refine ev_getR rfl rfl (rfl : rf 181 2 = some 183) ?_
    refine ev_go (pc' := 32) (ls' := [some (vR (some 181)), some (vR (some 185)), some (vI ((n : Nat) : Int)), some (vI ((5 ^ n : Nat) : Int)), some (vI ((q : Nat) : Int))]) (st' := [vI ((n : Nat) : Int), vR (some 183), vR (some 185)]) (h1 := HS t m) 1 (by rfl) ?_
    refine ev_laldv (k := n) (v := (wt a0 aa n q)) rfl rfl rfl (by omega) (hwn.1) ?_
    refine ev_go (pc' := 34) (ls' := [some (vR (some 181)), some (vR (some 185)), some (vI ((n : Nat) : Int)), some (vI ((5 ^ n : Nat) : Int)), some (vI ((q : Nat) : Int))]) (st' := [vR (some 181), vJ (wt a0 aa n q), vR (some 185)]) (h1 := HS t m) 1 (by rfl) ?_
    refine ev_getR rfl rfl (rfl : rf 181 3 = some 184) ?_
    refine ev_go (pc' := 38) (ls' := [some (vR (some 181)), some (vR (some 185)), some (vI ((n : Nat) : Int)), some (vI ((5 ^ n : Nat) : Int)), some (vI ((q : Nat) : Int))]) (st' := [vI ((n : Nat) : Int), vR (some 184), vJ (wt a0 aa n q), vR (some 185)]) (h1 := HS t m) 1 (by rfl) ?_
    refine ev_ialdv (k := n) (v := (cd n q)) rfl rfl rfl (by omega) (hwn.2) ?_
    refine ev_call rfl rfl (Nat.le_of_ble_eq_true rfl) hE1 ⟨Nat.le_refl _, Nat.le_refl _⟩ ?_
    show Ev (PP L xs) _ 1 42 [some (vR (some 181)), some (vR (some 185)), some (vI ((n : Nat) : Int)), some (vI ((5 ^ n : Nat) : Int)), some (vI ((q : Nat) : Int))] [] (HS t m1) _ _
    refine ev_go (pc' := 43) (ls' := [some (vR (some 181)), some (vR (some 185)), some (vI ((n : Nat) : Int)), some (vI ((5 ^ n : Nat) : Int)), some (vI ((q : Nat) : Int))]) (st' := [vR (some 181)]) (h1 := HS t m1) 1 (by rfl) ?_
    refine ev_call rfl rfl (Nat.le_of_ble_eq_true rfl) hE2 ⟨Nat.le_refl _, Nat.le_refl _⟩ ?_
    show Ev (PP L xs) _ 1 46 [some (vR (some 181)), some (vR (some 185)), some (vI ((n : Nat) : Int)), some (vI ((5 ^ n : Nat) : Int)), some (vI ((q : Nat) : Int))] [] (HS t m2) _ _
    refine ev_go (pc' := 20) (ls' := [some (vR (some 181)), some (vR (some 185)), some (vI ((n : Nat) : Int)), some (vI ((5 ^ n : Nat) : Int)), some (vI ((q + 1 : Nat) : Int))]) (st' := []) (h1 := HS t m2) 2 (by rfl) ?_
    exact hE3
set_option maxRecDepth 10000 in
theorem c_aRank {L : Nat} {xs : Nat → Int32} {t : Bool × Nat × Nat} {d n : Nat} {m : mMM} {a0 : Nat → Int} {aa : Nat → Nat → Nat → Int} (hB : AB a0 aa) (hn0 : 0 < n) (hn5 : n ≤ 5) (hn : m 75 2 = (n : Int)) (hlb : LBD m) (ha : ARC m a0 aa) (hr : m 185 2 = 0) : ∃ m', Ev (PP L xs) (d + 4) 1 0 (entL 5 [vR (some 181), vR (some 185)]) [] (HS t m) (.inl none) (HS t m') ∧ RK m' 185 (((List.range (5 ^ n)).map (pw a0 aa n)).foldl oL []) ∧ (∀ b k, (b < 182 ∨ 187 < b) → m' b k = m b k) := by
  obtain ⟨m1, hE1, hW1, hF1⟩ := c_start (L := L) (xs := xs) (t := t) (d := d) hn5 hn hlb ha
  have hF1b : ∀ b k, b < 93 → m1 b k = m b k := fun b k h => hF1 b k (by omega) (by omega) (by omega)
  have hr1 : RK m1 185 [] := ⟨by rw [hF1 185 2 (by decide) (by decide) (by decide)]; exact hr, Nat.zero_le _, fun k hk => absurd hk (Nat.not_lt_zero k)⟩
  obtain ⟨m2, hE2, hR2, hF2⟩ := l_aRank (L := L) (xs := xs) (t := t) (d := d) hB hn0 hn5 (5 ^ n) 0 [] m1 (by omega) (by rw [hF1b 75 2 (by decide)]; exact hn) (LBD_any hF1b hlb) (ARC_any hF1b ha) (fun _ => hW1) hr1 List.Pairwise.nil (fun x hx => absurd hx (List.not_mem_nil))
  rw [← List.range_eq_range'] at hR2
  refine ⟨m2, ?_, hR2, fun b k h => (hF2 b k h).trans (hF1 b k (by omega) (by omega) (by omega))⟩
  refine ev_go (pc' := 1) (ls' := [some (vR (some 181)), some (vR (some 185)), none, none, none]) (st' := [vR (some 181)]) (h1 := HS t m) 1 (by rfl) ?_
  refine ev_getR rfl rfl (rfl : rf 181 0 = some 78) ?_
  have hsz := c_la_size (L := L) (xs := xs) (d := d + 2) (t := t) (m := m)
  rw [hn] at hsz
  refine ev_call rfl rfl (Nat.le_of_ble_eq_true rfl) hsz ⟨Nat.le_refl _, Nat.le_refl _⟩ ?_
  show Ev (PP L xs) _ 1 7 [some (vR (some 181)), some (vR (some 185)), none, none, none] [vI ((n : Nat) : Int)] (HS t m) _ _
  refine ev_go (pc' := 9) (ls' := [some (vR (some 181)), some (vR (some 185)), some (vI ((n : Nat) : Int)), none, none]) (st' := [vR (some 181)]) (h1 := HS t m) 2 (by rfl) ?_
  refine ev_call rfl rfl (Nat.le_of_ble_eq_true rfl) (c_countP (d := d + 1) hn hn5) ⟨Nat.le_refl _, Nat.le_refl _⟩ ?_
  show Ev (PP L xs) _ 1 12 [some (vR (some 181)), some (vR (some 185)), some (vI ((n : Nat) : Int)), none, none] [vI ((5 ^ n : Nat) : Int)] (HS t m) _ _
  refine ev_go (pc' := 14) (ls' := [some (vR (some 181)), some (vR (some 185)), some (vI ((n : Nat) : Int)), some (vI ((5 ^ n : Nat) : Int)), none]) (st' := [vR (some 181)]) (h1 := HS t m) 2 (by rfl) ?_
  refine ev_call rfl rfl (Nat.le_of_ble_eq_true rfl) hE1 ⟨Nat.le_refl _, Nat.le_refl _⟩ ?_
  show Ev (PP L xs) _ 1 17 [some (vR (some 181)), some (vR (some 185)), some (vI ((n : Nat) : Int)), some (vI ((5 ^ n : Nat) : Int)), none] [] (HS t m1) _ _
  refine ev_go (pc' := 20) (ls' := [some (vR (some 181)), some (vR (some 185)), some (vI ((n : Nat) : Int)), some (vI ((5 ^ n : Nat) : Int)), some (vI 0)]) (st' := []) (h1 := HS t m1) 2 (by rfl) ?_
  exact hE2
set_option maxRecDepth 10000 in
theorem l_aSum {L : Nat} {xs : Nat → Int32} {t : Bool × Nat × Nat} {d n P : Nat} {a0 : Nat → Int} {aa : Nat → Nat → Nat → Int} (hP : P < n) (hn5 : n ≤ 5) : ∀ (c q : Nat) (m : mMM), q + c = 5 ^ n → m 75 2 = (n : Int) → LBD m → ARC m a0 aa → (0 < c → WQ m a0 aa n q n) → (∀ g, g < 5 → m 189 g = sumR q (fun x => if x / 5 ^ (n - 1 - P) % 5 = g then wt a0 aa n x else 0)) → ∃ m', Ev (PP L xs) (d + 4) 2 38 [some (vR (some 181)), some (vR (some 189)), some (vI ((P : Nat) : Int)), some (vI ((n : Nat) : Int)), some (vI ((5 ^ n : Nat) : Int)), some (vI ((q : Nat) : Int))] [] (HS t m) (.inl none) (HS t m') ∧ (∀ g, g < 5 → m' 189 g = sumR (5 ^ n) (fun x => if x / 5 ^ (n - 1 - P) % 5 = g then wt a0 aa n x else 0)) ∧ (∀ b k, (b < 182 ∨ 184 < b) → b ≠ 189 → m' b k = m b k) := by
  intro c
  induction c with
  | zero =>
    intro q m hq hn hlb ha hw hs
    have h5n := p5 n hn5
    have eq : q = 5 ^ n := by omega
    refine ⟨m, ?_, fun g hg => by rw [← eq]; exact hs g hg, fun _ _ _ _ => rfl⟩
    refine ev_go (pc' := 42) (ls' := [some (vR (some 181)), some (vR (some 189)), some (vI ((P : Nat) : Int)), some (vI ((n : Nat) : Int)), some (vI ((5 ^ n : Nat) : Int)), some (vI ((q : Nat) : Int))]) (st' := [vI ((5 ^ n : Nat) : Int), vI ((q : Nat) : Int)]) (h1 := HS t m) 2 (by rfl) ?_
    refine ev_ic3 rfl (inI_of (by omega) (by omega)) (inI_of (by omega) (by omega)) (fun c42 => ?_) (fun c42 => absurd c42 (by omega))
    exact ev_retE rfl rfl (by first | rfl | (simp [*]; done) | (split <;> first | rfl | (exfalso; omega))) (by first | rfl | (simp [*]; done) | (split <;> first | rfl | (exfalso; omega)))
  | succ c IH =>
    intro q m hq hn hlb ha hw hs
    have h5n := p5 n hn5
    have hwq := hw (by omega)
    have hwn := hwq.2 n (Nat.le_refl n)
    rw [Nat.sub_self, Nat.pow_zero, Nat.div_one] at hwn
    have hf := hwq.1 P hP
    have hf5 : q / 5 ^ (n - 1 - P) % 5 < 5 := Nat.mod_lt _ (by decide)
    generalize hG : q / 5 ^ (n - 1 - P) % 5 = f at *
    have hF1 : ∀ b k, b ≠ 189 → (up m 189 f (m 189 f + wt a0 aa n q)) b k = m b k := fun b k h => up_ne1 _ _ h
    have hlb1 : LBD (up m 189 f (m 189 f + wt a0 aa n q)) := LBD_any (fun b k h => hF1 b k (by omega)) hlb
    have ha1 : ARC (up m 189 f (m 189 f + wt a0 aa n q)) a0 aa := ARC_any (fun b k h => hF1 b k (by omega)) ha
    have hw1 : WQ (up m 189 f (m 189 f + wt a0 aa n q)) a0 aa n q n := WQ_fr (fun k => ⟨hF1 182 k (by decide), hF1 183 k (by decide), hF1 184 k (by decide)⟩) hwq
    have hn1 : (up m 189 f (m 189 f + wt a0 aa n q)) 75 2 = (n : Int) := by rw [hF1 75 2 (by decide)]; exact hn
    obtain ⟨m2, hE2, hW2, hF2⟩ := c_goOn (L := L) (xs := xs) (t := t) (d := d) (by omega) hn5 hn1 hlb1 ha1 hw1
    have hF2b : ∀ b k, b < 93 → m2 b k = (up m 189 f (m 189 f + wt a0 aa n q)) b k := fun b k h => hF2 b k (by omega) (by omega) (by omega)
    obtain ⟨m3, hE3, hR3, hF3⟩ := IH (q + 1) m2 (by omega) (by rw [hF2b 75 2 (by decide)]; exact hn1) (LBD_any hF2b hlb1) (ARC_any hF2b ha1) (fun h => hW2 (by omega)) (fun g hg => by
      rw [hF2 189 g (by decide) (by decide) (by decide)]
      show _ = sumR q _ + (if q / 5 ^ (n - 1 - P) % 5 = g then wt a0 aa n q else 0)
      rw [← hs g hg, hG]
      by_cases c1 : f = g
      · rw [if_pos c1, c1, up_eq]
      · rw [if_neg c1, up_ne2 _ _ (fun h => c1 h.symm), Int.add_zero])
    refine ⟨m3, ?_, hR3, fun b k h h2 => (hF3 b k h h2).trans ((hF2 b k (by omega) (by omega) (by omega)).trans (hF1 b k h2))⟩
    refine ev_go (pc' := 42) (ls' := [some (vR (some 181)), some (vR (some 189)), some (vI ((P : Nat) : Int)), some (vI ((n : Nat) : Int)), some (vI ((5 ^ n : Nat) : Int)), some (vI ((q : Nat) : Int))]) (st' := [vI ((5 ^ n : Nat) : Int), vI ((q : Nat) : Int)]) (h1 := HS t m) 2 (by rfl) ?_
    refine ev_ic3 rfl (inI_of (by omega) (by omega)) (inI_of (by omega) (by omega)) (fun c42 => absurd c42 (by omega)) (fun c42 => ?_)
    refine ev_go (pc' := 47) (ls' := [some (vR (some 181)), some (vR (some 189)), some (vI ((P : Nat) : Int)), some (vI ((n : Nat) : Int)), some (vI ((5 ^ n : Nat) : Int)), some (vI ((q : Nat) : Int))]) (st' := [vR (some 181), vR (some 189)]) (h1 := HS t m) 2 (by rfl) ?_
    refine ev_getR rfl rfl (rfl : rf 181 1 = some 182) ?_
    refine ev_go (pc' := 51) (ls' := [some (vR (some 181)), some (vR (some 189)), some (vI ((P : Nat) : Int)), some (vI ((n : Nat) : Int)), some (vI ((5 ^ n : Nat) : Int)), some (vI ((q : Nat) : Int))]) (st' := [vI ((P : Nat) : Int), vR (some 182), vR (some 189)]) (h1 := HS t m) 1 (by rfl) ?_
    refine ev_ialdv (k := P) (v := ((f : Nat) : Int)) rfl rfl rfl (by omega) (hf) ?_
    refine ev_go (pc' := 53) (ls' := [some (vR (some 181)), some (vR (some 189)), some (vI ((P : Nat) : Int)), some (vI ((n : Nat) : Int)), some (vI ((5 ^ n : Nat) : Int)), some (vI ((q : Nat) : Int))]) (st' := [vI ((f : Nat) : Int), vR (some 189), vI ((f : Nat) : Int), vR (some 189)]) (h1 := HS t m) 1 (by rfl) ?_
    refine ev_lald (k := f) rfl rfl rfl (by omega) ?_
    refine ev_go (pc' := 55) (ls' := [some (vR (some 181)), some (vR (some 189)), some (vI ((P : Nat) : Int)), some (vI ((n : Nat) : Int)), some (vI ((5 ^ n : Nat) : Int)), some (vI ((q : Nat) : Int))]) (st' := [vR (some 181), vJ (m 189 f), vI ((f : Nat) : Int), vR (some 189)]) (h1 := HS t m) 1 (by rfl) ?_
    refine ev_getR rfl rfl (rfl : rf 181 2 = some 183) ?_
    refine ev_go (pc' := 59) (ls' := [some (vR (some 181)), some (vR (some 189)), some (vI ((P : Nat) : Int)), some (vI ((n : Nat) : Int)), some (vI ((5 ^ n : Nat) : Int)), some (vI ((q : Nat) : Int))]) (st' := [vI ((n : Nat) : Int), vR (some 183), vJ (m 189 f), vI ((f : Nat) : Int), vR (some 189)]) (h1 := HS t m) 1 (by rfl) ?_
    refine ev_laldv (k := n) (v := (wt a0 aa n q)) rfl rfl rfl (by omega) (hwn.1) ?_
    refine ev_go (pc' := 61) (ls' := [some (vR (some 181)), some (vR (some 189)), some (vI ((P : Nat) : Int)), some (vI ((n : Nat) : Int)), some (vI ((5 ^ n : Nat) : Int)), some (vI ((q : Nat) : Int))]) (st' := [vJ ((m 189 f) + (wt a0 aa n q)), vI ((f : Nat) : Int), vR (some 189)]) (h1 := HS t m) 1 (by rfl) ?_
    refine ev_last (k := f) rfl rfl rfl (by omega) ?_
    refine ev_go (pc' := 63) (ls' := [some (vR (some 181)), some (vR (some 189)), some (vI ((P : Nat) : Int)), some (vI ((n : Nat) : Int)), some (vI ((5 ^ n : Nat) : Int)), some (vI ((q : Nat) : Int))]) (st' := [vR (some 181)]) (h1 := HS t (up m 189 f ((m 189 f) + (wt a0 aa n q)))) 1 (by rfl) ?_
    refine ev_call rfl rfl (Nat.le_of_ble_eq_true rfl) hE2 ⟨Nat.le_refl _, Nat.le_refl _⟩ ?_
    show Ev (PP L xs) _ 2 66 [some (vR (some 181)), some (vR (some 189)), some (vI ((P : Nat) : Int)), some (vI ((n : Nat) : Int)), some (vI ((5 ^ n : Nat) : Int)), some (vI ((q : Nat) : Int))] [] (HS t m2) _ _
    refine ev_go (pc' := 38) (ls' := [some (vR (some 181)), some (vR (some 189)), some (vI ((P : Nat) : Int)), some (vI ((n : Nat) : Int)), some (vI ((5 ^ n : Nat) : Int)), some (vI ((q + 1 : Nat) : Int))]) (st' := []) (h1 := HS t m2) 2 (by rfl) ?_
    exact hE3
set_option maxRecDepth 10000 in
theorem c_aSum {L : Nat} {xs : Nat → Int32} {t : Bool × Nat × Nat} {d n P : Nat} {m : mMM} {a0 : Nat → Int} {aa : Nat → Nat → Nat → Int} (hP : P < n) (hn5 : n ≤ 5) (hn : m 75 2 = (n : Int)) (hlb : LBD m) (ha : ARC m a0 aa) : ∃ m', Ev (PP L xs) (d + 4) 2 0 (entL 6 [vR (some 181), vR (some 189), vI (P : Int)]) [] (HS t m) (.inl none) (HS t m') ∧ (∀ g, g < 5 → m' 189 g = PS a0 aa n (n - 1 - P) g) ∧ (∀ b k, (b < 182 ∨ 184 < b) → b ≠ 189 → m' b k = m b k) := by
  have hF0 : ∀ b k, b ≠ 189 → (up (up (up (up (up m 189 0 0) 189 1 0) 189 2 0) 189 3 0) 189 4 0) b k = m b k := fun b k h => z5_ne m 189 h
  have hlb0 : LBD (up (up (up (up (up m 189 0 0) 189 1 0) 189 2 0) 189 3 0) 189 4 0) := LBD_any (fun b k h => hF0 b k (by omega)) hlb
  have ha0 : ARC (up (up (up (up (up m 189 0 0) 189 1 0) 189 2 0) 189 3 0) 189 4 0) a0 aa := ARC_any (fun b k h => hF0 b k (by omega)) ha
  have hn0 : (up (up (up (up (up m 189 0 0) 189 1 0) 189 2 0) 189 3 0) 189 4 0) 75 2 = (n : Int) := by rw [hF0 75 2 (by decide)]; exact hn
  obtain ⟨m1, hE1, hW1, hF1⟩ := c_start (L := L) (xs := xs) (t := t) (d := d) hn5 hn0 hlb0 ha0
  have hF1b : ∀ b k, b < 93 → m1 b k = (up (up (up (up (up m 189 0 0) 189 1 0) 189 2 0) 189 3 0) 189 4 0) b k := fun b k h => hF1 b k (by omega) (by omega) (by omega)
  obtain ⟨m2, hE2, hR2, hF2⟩ := l_aSum (L := L) (xs := xs) (t := t) (d := d) hP hn5 (5 ^ n) 0 m1 (by omega) (by rw [hF1b 75 2 (by decide)]; exact hn0) (LBD_any hF1b hlb0) (ARC_any hF1b ha0) (fun _ => hW1) (fun g hg => by rw [hF1 189 g (by decide) (by decide) (by decide)]; exact z5_at m 189 g hg)
  refine ⟨m2, ?_, hR2, fun b k h h2 => (hF2 b k h h2).trans ((hF1 b k (by omega) (by omega) (by omega)).trans (hF0 b k h2))⟩
  refine ev_go (pc' := 4) (ls' := [some (vR (some 181)), some (vR (some 189)), some (vI ((P : Nat) : Int)), some (vI 0), none, none]) (st' := [vI 5, vI 0]) (h1 := HS t m) 4 (by rfl) ?_
  refine ev_ic3 rfl rfl rfl (fun c4 => absurd c4 (by decide)) (fun c4 => ?_)
  refine ev_go (pc' := 10) (ls' := [some (vR (some 181)), some (vR (some 189)), some (vI ((P : Nat) : Int)), some (vI 0), none, none]) (st' := [vJ 0, vI 0, vR (some 189)]) (h1 := HS t m) 3 (by rfl) ?_
  refine ev_last (k := 0) rfl rfl rfl (by omega) ?_
  refine ev_go (pc' := 4) (ls' := [some (vR (some 181)), some (vR (some 189)), some (vI ((P : Nat) : Int)), some (vI 1), none, none]) (st' := [vI 5, vI 1]) (h1 := HS t (up m 189 0 0)) 4 (by rfl) ?_
  refine ev_ic3 rfl rfl rfl (fun c4 => absurd c4 (by decide)) (fun c4 => ?_)
  refine ev_go (pc' := 10) (ls' := [some (vR (some 181)), some (vR (some 189)), some (vI ((P : Nat) : Int)), some (vI 1), none, none]) (st' := [vJ 0, vI 1, vR (some 189)]) (h1 := HS t (up m 189 0 0)) 3 (by rfl) ?_
  refine ev_last (k := 1) rfl rfl rfl (by omega) ?_
  refine ev_go (pc' := 4) (ls' := [some (vR (some 181)), some (vR (some 189)), some (vI ((P : Nat) : Int)), some (vI 2), none, none]) (st' := [vI 5, vI 2]) (h1 := HS t (up (up m 189 0 0) 189 1 0)) 4 (by rfl) ?_
  refine ev_ic3 rfl rfl rfl (fun c4 => absurd c4 (by decide)) (fun c4 => ?_)
  refine ev_go (pc' := 10) (ls' := [some (vR (some 181)), some (vR (some 189)), some (vI ((P : Nat) : Int)), some (vI 2), none, none]) (st' := [vJ 0, vI 2, vR (some 189)]) (h1 := HS t (up (up m 189 0 0) 189 1 0)) 3 (by rfl) ?_
  refine ev_last (k := 2) rfl rfl rfl (by omega) ?_
  refine ev_go (pc' := 4) (ls' := [some (vR (some 181)), some (vR (some 189)), some (vI ((P : Nat) : Int)), some (vI 3), none, none]) (st' := [vI 5, vI 3]) (h1 := HS t (up (up (up m 189 0 0) 189 1 0) 189 2 0)) 4 (by rfl) ?_
  refine ev_ic3 rfl rfl rfl (fun c4 => absurd c4 (by decide)) (fun c4 => ?_)
  refine ev_go (pc' := 10) (ls' := [some (vR (some 181)), some (vR (some 189)), some (vI ((P : Nat) : Int)), some (vI 3), none, none]) (st' := [vJ 0, vI 3, vR (some 189)]) (h1 := HS t (up (up (up m 189 0 0) 189 1 0) 189 2 0)) 3 (by rfl) ?_
  refine ev_last (k := 3) rfl rfl rfl (by omega) ?_
  refine ev_go (pc' := 4) (ls' := [some (vR (some 181)), some (vR (some 189)), some (vI ((P : Nat) : Int)), some (vI 4), none, none]) (st' := [vI 5, vI 4]) (h1 := HS t (up (up (up (up m 189 0 0) 189 1 0) 189 2 0) 189 3 0)) 4 (by rfl) ?_
  refine ev_ic3 rfl rfl rfl (fun c4 => absurd c4 (by decide)) (fun c4 => ?_)
  refine ev_go (pc' := 10) (ls' := [some (vR (some 181)), some (vR (some 189)), some (vI ((P : Nat) : Int)), some (vI 4), none, none]) (st' := [vJ 0, vI 4, vR (some 189)]) (h1 := HS t (up (up (up (up m 189 0 0) 189 1 0) 189 2 0) 189 3 0)) 3 (by rfl) ?_
  refine ev_last (k := 4) rfl rfl rfl (by omega) ?_
  refine ev_go (pc' := 4) (ls' := [some (vR (some 181)), some (vR (some 189)), some (vI ((P : Nat) : Int)), some (vI 5), none, none]) (st' := [vI 5, vI 5]) (h1 := HS t (up (up (up (up (up m 189 0 0) 189 1 0) 189 2 0) 189 3 0) 189 4 0)) 4 (by rfl) ?_
  refine ev_ic3 rfl rfl rfl (fun c4 => ?_) (fun c4 => absurd c4 (by decide))
  refine ev_go (pc' := 18) (ls' := [some (vR (some 181)), some (vR (some 189)), some (vI ((P : Nat) : Int)), some (vI 5), none, none]) (st' := [vR (some 181)]) (h1 := HS t (up (up (up (up (up m 189 0 0) 189 1 0) 189 2 0) 189 3 0) 189 4 0)) 1 (by rfl) ?_
  refine ev_getR rfl rfl (rfl : rf 181 0 = some 78) ?_
  have hsz := c_la_size (L := L) (xs := xs) (d := d + 2) (t := t) (m := up (up (up (up (up m 189 0 0) 189 1 0) 189 2 0) 189 3 0) 189 4 0)
  rw [hn0] at hsz
  refine ev_call rfl rfl (Nat.le_of_ble_eq_true rfl) hsz ⟨Nat.le_refl _, Nat.le_refl _⟩ ?_
  show Ev (PP L xs) _ 2 24 [some (vR (some 181)), some (vR (some 189)), some (vI ((P : Nat) : Int)), some (vI 5), none, none] [vI ((n : Nat) : Int)] (HS t (up (up (up (up (up m 189 0 0) 189 1 0) 189 2 0) 189 3 0) 189 4 0)) _ _
  refine ev_go (pc' := 26) (ls' := [some (vR (some 181)), some (vR (some 189)), some (vI ((P : Nat) : Int)), some (vI ((n : Nat) : Int)), none, none]) (st' := [vR (some 181)]) (h1 := HS t (up (up (up (up (up m 189 0 0) 189 1 0) 189 2 0) 189 3 0) 189 4 0)) 2 (by rfl) ?_
  refine ev_call rfl rfl (Nat.le_of_ble_eq_true rfl) (c_countP (d := d + 1) hn0 hn5) ⟨Nat.le_refl _, Nat.le_refl _⟩ ?_
  show Ev (PP L xs) _ 2 29 [some (vR (some 181)), some (vR (some 189)), some (vI ((P : Nat) : Int)), some (vI ((n : Nat) : Int)), none, none] [vI ((5 ^ n : Nat) : Int)] (HS t (up (up (up (up (up m 189 0 0) 189 1 0) 189 2 0) 189 3 0) 189 4 0)) _ _
  refine ev_go (pc' := 32) (ls' := [some (vR (some 181)), some (vR (some 189)), some (vI ((P : Nat) : Int)), some (vI ((n : Nat) : Int)), some (vI ((5 ^ n : Nat) : Int)), none]) (st' := [vR (some 181)]) (h1 := HS t (up (up (up (up (up m 189 0 0) 189 1 0) 189 2 0) 189 3 0) 189 4 0)) 2 (by rfl) ?_
  refine ev_call rfl rfl (Nat.le_of_ble_eq_true rfl) hE1 ⟨Nat.le_refl _, Nat.le_refl _⟩ ?_
  show Ev (PP L xs) _ 2 35 [some (vR (some 181)), some (vR (some 189)), some (vI ((P : Nat) : Int)), some (vI ((n : Nat) : Int)), some (vI ((5 ^ n : Nat) : Int)), none] [] (HS t m1) _ _
  refine ev_go (pc' := 38) (ls' := [some (vR (some 181)), some (vR (some 189)), some (vI ((P : Nat) : Int)), some (vI ((n : Nat) : Int)), some (vI ((5 ^ n : Nat) : Int)), some (vI 0)]) (st' := []) (h1 := HS t m1) 2 (by rfl) ?_
  exact hE2
