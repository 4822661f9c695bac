/-! ===== offers, from ranking to ranking ===== -/
def BD (l : List Pr) : Prop := ∀ x, x ∈ l → inJ x.1 = true ∧ inI x.2 = true
theorem oL_mem {l : List Pr} {x z : Pr} (h : z ∈ oL l x) : z = x ∨ z ∈ l := by
  unfold oL at h; split at h
  · exact ins_mem (List.mem_of_mem_take h)
  · exact Or.inr h
theorem BD_oL {l : List Pr} {x : Pr} (h : BD l) (h1 : inJ x.1 = true) (h2 : inI x.2 = true) : BD (oL l x) := by
  intro z hz; rcases oL_mem hz with rfl | hz
  · exact ⟨h1, h2⟩
  · exact h z hz
theorem gl_mem {l : List Pr} {k : Nat} (h : k < l.length) : gl l k ∈ l := by rw [gl_get l h]; exact List.getElem_mem h
theorem FR_trans {m m1 m2 : mMM} {a : Nat} (h : FR m m1 a) (h2 : FR m1 m2 a) : FR m m2 a := fun b k x y z => (h2 b k x y z).trans (h b k x y z)
theorem RK_fr {m m1 : mMM} {a b : Nat} {l : List Pr} (h : FR m m1 a) (hs : a + 2 < b ∨ b + 2 < a) (hr : RK m b l) : RK m1 b l := by
  refine ⟨?_, hr.2.1, fun k hk => ?_⟩
  · rw [h b 2 (by omega) (by omega) (by omega)]; exact hr.1
  · rw [h (b + 1) k (by omega) (by omega) (by omega), h (b + 2) k (by omega) (by omega) (by omega)]; exact hr.2.2 k hk
theorem drop_gl {l : List Pr} {i : Nat} (h : i < l.length) : l.drop i = gl l i :: l.drop (i + 1) := by
  rw [gl_get l h]; exact List.drop_eq_getElem_cons h
def extF (arc g : Int) (x : Pr) : Pr := (x.1 * arc, x.2 * 2 ^ 3 + g)
theorem c_off {L : Nat} {xs : Nat → Int32} {d : Nat} {t : Bool × Nat × Nat} {m : mMM} {a : Nat} {l : List Pr} {w p : Int} (ha : RKA a) (hr : RK m a l) (hs : Srt l) (hb : BD l) (hw : inJ w = true) (hp : inI p = true) : ∃ m', Ev (PP L xs) (d + 1) 29 0 (entL 5 [vR (some a), vJ w, vI p]) [] (HS t m) (.inl none) (HS t m') ∧ RK m' a (oL l (w, p)) ∧ FR m m' a :=
  ⟨_, c_rk_offer ha hr.1 hr.2.1 hw hp (fun k hk => by
    rw [(hr.2.2 k hk).1, (hr.2.2 k hk).2]; exact hb _ (gl_mem hk)), rk_off hr hs w p, fr_tail _ _ _ _ _ _⟩
set_option maxRecDepth 10000 in
theorem l_offerAll {L : Nat} {xs : Nat → Int32} {t : Bool × Nat × Nat} {d a b n : Nat} {lb : List Pr} (ha : RKA a) (hb : RKA b) (hsep : a + 2 < b ∨ b + 2 < a) (hlb : lb.length = n) (hBD : BD lb) : ∀ (c i : Nat) (l : List Pr) (m : mMM), i + c = n → RK m a l → Srt l → BD l → RK m b lb → ∃ m', Ev (PP L xs) (d + 2) 31 2 [some (vR (some a)), some (vR (some b)), some (vI (i : Int))] [] (HS t m) (.inl none) (HS t m') ∧ RK m' a ((lb.drop i).foldl oL l) ∧ Srt ((lb.drop i).foldl oL l) ∧ BD ((lb.drop i).foldl oL l) ∧ FR m m' a := by
  intro c
  induction c with
  | zero =>
    intro i l m hi hr hs hbd hrb
    have e : lb.drop i = [] := List.drop_eq_nil_of_le (by omega)
    rw [e]
    refine ⟨m, ?_, hr, hs, hbd, fun _ _ _ _ _ => rfl⟩
    refine ev_go (pc' := 4) (ls' := [some (vR (some a)), some (vR (some b)), some (vI ((i : Nat) : Int))]) (st' := [vR (some b), vI ((i : Nat) : Int)]) (h1 := HS t m) 2 (by rfl) ?_
    refine ev_getIv (v := ((n : Nat) : Int)) rfl hb.1 ((by rw [hrb.1, hlb])) ?_
    refine ev_ic3 rfl (inI_of (by have := hrb.2.1; omega) (by have := hrb.2.1; omega)) (inI_of (by have := hrb.2.1; omega) (by have := hrb.2.1; omega)) (fun c7 => ?_) (fun c7 => absurd c7 (by omega))
    exact ev_retE rfl rfl (by first | rfl | (simp [*]; done) | (split <;> first | rfl | (exfalso; omega))) (by first | rfl | (simp [*]; done) | (split <;> first | rfl | (exfalso; omega)))
  | succ c IH =>
    intro i l m hi hr hs hbd hrb
    have hlb10 := hrb.2.1
    have hv := hrb.2.2 i (by omega)
    have hx := hBD (gl lb i) (gl_mem (by omega))
    obtain ⟨m1, hE1, hR1, hF1⟩ := c_off (L := L) (xs := xs) (d := d) (t := t) (w := m (b + 1) i) (p := m (b + 2) i) ha hr hs hbd (by rw [hv.1]; exact hx.1) (by rw [hv.2]; exact hx.2)
    rw [hv.1, hv.2] at hR1
    obtain ⟨m2, hE2, hR2, hS2, hB2, hF2⟩ := IH (i + 1) _ m1 (by omega) hR1 (Srt_oL hs _) (BD_oL hbd hx.1 hx.2) (RK_fr hF1 hsep hrb)
    rw [drop_gl (by omega : i < lb.length)]
    refine ⟨m2, ?_, hR2, hS2, hB2, FR_trans hF1 hF2⟩
    refine ev_go (pc' := 4) (ls' := [some (vR (some a)), some (vR (some b)), some (vI ((i : Nat) : Int))]) (st' := [vR (some b), vI ((i : Nat) : Int)]) (h1 := HS t m) 2 (by rfl) ?_
    refine ev_getIv (v := ((n : Nat) : Int)) rfl hb.1 ((by rw [hrb.1, hlb])) ?_
    refine ev_ic3 rfl (inI_of (by omega) (by omega)) (inI_of (by omega) (by omega)) (fun c7 => absurd c7 (by omega)) (fun c7 => ?_)
    refine ev_go (pc' := 12) (ls' := [some (vR (some a)), some (vR (some b)), some (vI ((i : Nat) : Int))]) (st' := [vR (some b), vR (some a)]) (h1 := HS t m) 2 (by rfl) ?_
    refine ev_getR rfl hb.1 (hb.2.2.2.1 : rf b 0 = some (b + 1)) ?_
    refine ev_go (pc' := 16) (ls' := [some (vR (some a)), some (vR (some b)), some (vI ((i : Nat) : Int))]) (st' := [vI ((i : Nat) : Int), vR (some (b + 1)), vR (some a)]) (h1 := HS t m) 1 (by rfl) ?_
    refine ev_lald (k := i) rfl hb.2.1 rfl (by omega) ?_
    refine ev_go (pc' := 18) (ls' := [some (vR (some a)), some (vR (some b)), some (vI ((i : Nat) : Int))]) (st' := [vR (some b), vJ (m (b + 1) i), vR (some a)]) (h1 := HS t m) 1 (by rfl) ?_
    refine ev_getR rfl hb.1 (hb.2.2.2.2 : rf b 1 = some (b + 2)) ?_
    refine ev_go (pc' := 22) (ls' := [some (vR (some a)), some (vR (some b)), some (vI ((i : Nat) : Int))]) (st' := [vI ((i : Nat) : Int), vR (some (b + 2)), vJ (m (b + 1) i), vR (some a)]) (h1 := HS t m) 1 (by rfl) ?_
    refine ev_iald (k := i) rfl hb.2.2.1 rfl (by omega) ?_
    refine ev_call rfl (hs_callV (i := 29) (c := 3) (n := 2) (nx := 26) (a := a) (as := [vJ (m (b + 1) i), vI (m (b + 2) i)]) (ls := [some (vR (some a)), some (vR (some b)), some (vI ((i : Nat) : Int))]) (st := [vI (m (b + 2) i), vJ (m (b + 1) i), vR (some a)]) rfl ha.1 rfl rfl) (Nat.le_of_ble_eq_true rfl) hE1 ⟨Nat.le_refl _, Nat.le_refl _⟩ ?_
    show Ev (PP L xs) _ 31 26 [some (vR (some a)), some (vR (some b)), some (vI ((i : Nat) : Int))] [] (HS t m1) _ _
    refine ev_go (pc' := 2) (ls' := [some (vR (some a)), some (vR (some b)), some (vI ((i + 1 : Nat) : Int))]) (st' := []) (h1 := HS t m1) 2 (by rfl) ?_
    exact hE2
set_option maxRecDepth 10000 in
theorem c_offerAll {L : Nat} {xs : Nat → Int32} {t : Bool × Nat × Nat} {d a b : Nat} {m : mMM} {l lb : List Pr} (ha : RKA a) (hb : RKA b) (hsep : a + 2 < b ∨ b + 2 < a) (hBD : BD lb) (hr : RK m a l) (hs : Srt l) (hbd : BD l) (hrb : RK m b lb) : ∃ m', Ev (PP L xs) (d + 2) 31 0 (entL 3 [vR (some a), vR (some b)]) [] (HS t m) (.inl none) (HS t m') ∧ RK m' a (lb.foldl oL l) ∧ Srt (lb.foldl oL l) ∧ BD (lb.foldl oL l) ∧ FR m m' a := by
  obtain ⟨m1, hE, h1, h2, h3, h4⟩ := l_offerAll (L := L) (xs := xs) (t := t) (d := d) ha hb hsep rfl hBD lb.length 0 l m (by omega) hr hs hbd hrb
  refine ⟨m1, ?_, h1, h2, h3, h4⟩
  refine ev_go (pc' := 2) (ls' := [some (vR (some a)), some (vR (some b)), some (vI 0)]) (st' := []) (h1 := HS t m) 2 (by rfl) ?_
  exact hE
set_option maxRecDepth 10000 in
theorem l_offerExt {L : Nat} {xs : Nat → Int32} {t : Bool × Nat × Nat} {d a b n : Nat} {arc g : Int} {lb : List Pr} (ha : RKA a) (hb : RKA b) (hsep : a + 2 < b ∨ b + 2 < a) (hlb : lb.length = n) (hx0 : ∀ x, x ∈ lb → inJ (x.1 * arc) = true ∧ 0 ≤ x.2 ∧ x.2 < 268435456) (hg : 0 ≤ g) (hg2 : g < 8) : ∀ (c i : Nat) (l : List Pr) (m : mMM), i + c = n → RK m a l → Srt l → BD l → RK m b lb → ∃ m', Ev (PP L xs) (d + 2) 32 3 [some (vR (some a)), some (vR (some b)), some (vJ arc), none, some (vI g), some (vI (i : Int))] [] (HS t m) (.inl none) (HS t m') ∧ RK m' a (((lb.drop i).map (extF arc g)).foldl oL l) ∧ Srt (((lb.drop i).map (extF arc g)).foldl oL l) ∧ BD (((lb.drop i).map (extF arc g)).foldl oL l) ∧ FR m m' a := by
  intro c
  induction c with
  | zero =>
    intro i l m hi hr hs hbd hrb
    have e : lb.drop i = [] := List.drop_eq_nil_of_le (by omega)
    rw [e]
    refine ⟨m, ?_, hr, hs, hbd, fun _ _ _ _ _ => rfl⟩
    refine ev_go (pc' := 6) (ls' := [some (vR (some a)), some (vR (some b)), some (vJ arc), none, some (vI g), some (vI ((i : Nat) : Int))]) (st' := [vR (some b), vI ((i : Nat) : Int)]) (h1 := HS t m) 2 (by rfl) ?_
    refine ev_getIv (v := ((n : Nat) : Int)) rfl hb.1 ((by rw [hrb.1, hlb])) ?_
    refine ev_ic3 rfl (inI_of (by have := hrb.2.1; omega) (by have := hrb.2.1; omega)) (inI_of (by have := hrb.2.1; omega) (by have := hrb.2.1; omega)) (fun c9 => ?_) (fun c9 => absurd c9 (by omega))
    exact ev_retE rfl rfl (by first | rfl | (simp [*]; done) | (split <;> first | rfl | (exfalso; omega))) (by first | rfl | (simp [*]; done) | (split <;> first | rfl | (exfalso; omega)))
  | succ c IH =>
    intro i l m hi hr hs hbd hrb
    have hlb10 := hrb.2.1
    have hv := hrb.2.2 i (by omega)
    have hx := hx0 (gl lb i) (gl_mem (by omega))
    have hp0 : 0 ≤ m (b + 2) i ∧ m (b + 2) i < 268435456 := by rw [hv.2]; exact hx.2
    have hw1 : inJ (m (b + 1) i * arc) = true := by rw [hv.1]; exact hx.1
    have hp1 : inI (m (b + 2) i * 2 ^ 3 + g) = true := inI_of (by omega) (by omega)
    obtain ⟨m1, hE1, hR1, hF1⟩ := c_off (L := L) (xs := xs) (d := d) (t := t) (w := m (b + 1) i * arc) (p := m (b + 2) i * 2 ^ 3 + g) ha hr hs hbd hw1 hp1
    have eX : (m (b + 1) i * arc, m (b + 2) i * 2 ^ 3 + g) = extF arc g (gl lb i) := by rw [hv.1, hv.2]; rfl
    have hb1 := BD_oL (x := (m (b + 1) i * arc, m (b + 2) i * 2 ^ 3 + g)) hbd hw1 hp1
    rw [eX] at hR1 hb1
    obtain ⟨m2, hE2, hR2, hS2, hB2, hF2⟩ := IH (i + 1) _ m1 (by omega) hR1 (Srt_oL hs _) hb1 (RK_fr hF1 hsep hrb)
    rw [drop_gl (by omega : i < lb.length), List.map_cons]
    refine ⟨m2, ?_, hR2, hS2, hB2, FR_trans hF1 hF2⟩
    refine ev_go (pc' := 6) (ls' := [some (vR (some a)), some (vR (some b)), some (vJ arc), none, some (vI g), some (vI ((i : Nat) : Int))]) (st' := [vR (some b), vI ((i : Nat) : Int)]) (h1 := HS t m) 2 (by rfl) ?_
    refine ev_getIv (v := ((n : Nat) : Int)) rfl hb.1 ((by rw [hrb.1, hlb])) ?_
    refine ev_ic3 rfl (inI_of (by omega) (by omega)) (inI_of (by omega) (by omega)) (fun c9 => absurd c9 (by omega)) (fun c9 => ?_)
    refine ev_go (pc' := 14) (ls' := [some (vR (some a)), some (vR (some b)), some (vJ arc), none, some (vI g), some (vI ((i : Nat) : Int))]) (st' := [vR (some b), vR (some a)]) (h1 := HS t m) 2 (by rfl) ?_
    refine ev_getR rfl hb.1 (hb.2.2.2.1 : rf b 0 = some (b + 1)) ?_
    refine ev_go (pc' := 19) (ls' := [some (vR (some a)), some (vR (some b)), some (vJ arc), none, some (vI g), some (vI ((i : Nat) : Int))]) (st' := [vI ((i : Nat) : Int), vR (some (b + 1)), vR (some a)]) (h1 := HS t m) 1 (by rfl) ?_
    refine ev_lald (k := i) rfl hb.2.1 rfl (by omega) ?_
    refine ev_go (pc' := 23) (ls' := [some (vR (some a)), some (vR (some b)), some (vJ arc), none, some (vI g), some (vI ((i : Nat) : Int))]) (st' := [vR (some b), vJ ((m (b + 1) i) * arc), vR (some a)]) (h1 := HS t m) 3 (by rfl) ?_
    refine ev_getR rfl hb.1 (hb.2.2.2.2 : rf b 1 = some (b + 2)) ?_
    refine ev_go (pc' := 28) (ls' := [some (vR (some a)), some (vR (some b)), some (vJ arc), none, some (vI g), some (vI ((i : Nat) : Int))]) (st' := [vI ((i : Nat) : Int), vR (some (b + 2)), vJ ((m (b + 1) i) * arc), vR (some a)]) (h1 := HS t m) 1 (by rfl) ?_
    refine ev_iald (k := i) rfl hb.2.2.1 rfl (by omega) ?_
    refine ev_go (pc' := 31) (ls' := [some (vR (some a)), some (vR (some b)), some (vJ arc), none, some (vI g), some (vI ((i : Nat) : Int))]) (st' := [vI g, vI (m (b + 2) i), vJ ((m (b + 1) i) * arc), vR (some a)]) (h1 := HS t m) 1 (by rfl) ?_
    refine ev_call rfl rfl (Nat.le_of_ble_eq_true rfl) (c_rk_extended hp0.1 hp0.2 hg hg2) ⟨Nat.le_refl _, Nat.le_refl _⟩ ?_
    show Ev (PP L xs) _ 32 34 [some (vR (some a)), some (vR (some b)), some (vJ arc), none, some (vI g), some (vI ((i : Nat) : Int))] [vI (m (b + 2) i * 2 ^ 3 + g), vJ ((m (b + 1) i) * arc), vR (some a)] (HS t m) _ _
    refine ev_call rfl (hs_callV (i := 29) (c := 3) (n := 2) (nx := 37) (a := a) (as := [vJ ((m (b + 1) i) * arc), vI (m (b + 2) i * 2 ^ 3 + g)]) (ls := [some (vR (some a)), some (vR (some b)), some (vJ arc), none, some (vI g), some (vI ((i : Nat) : Int))]) (st := [vI (m (b + 2) i * 2 ^ 3 + g), vJ ((m (b + 1) i) * arc), vR (some a)]) rfl ha.1 rfl rfl) (Nat.le_of_ble_eq_true rfl) hE1 ⟨Nat.le_refl _, Nat.le_refl _⟩ ?_
    show Ev (PP L xs) _ 32 37 [some (vR (some a)), some (vR (some b)), some (vJ arc), none, some (vI g), some (vI ((i : Nat) : Int))] [] (HS t m1) _ _
    refine ev_go (pc' := 3) (ls' := [some (vR (some a)), some (vR (some b)), some (vJ arc), none, some (vI g), some (vI ((i + 1 : Nat) : Int))]) (st' := []) (h1 := HS t m1) 2 (by rfl) ?_
    exact hE2
set_option maxRecDepth 10000 in
theorem c_offerExt {L : Nat} {xs : Nat → Int32} {t : Bool × Nat × Nat} {d a b : Nat} {m : mMM} {arc g : Int} {l lb : List Pr} (ha : RKA a) (hb : RKA b) (hsep : a + 2 < b ∨ b + 2 < a) (hx0 : ∀ x, x ∈ lb → inJ (x.1 * arc) = true ∧ 0 ≤ x.2 ∧ x.2 < 268435456) (hg : 0 ≤ g) (hg2 : g < 8) (hr : RK m a l) (hs : Srt l) (hbd : BD l) (hrb : RK m b lb) : ∃ m', Ev (PP L xs) (d + 2) 32 0 (entL 6 [vR (some a), vR (some b), vJ arc, vI g]) [] (HS t m) (.inl none) (HS t m') ∧ RK m' a ((lb.map (extF arc g)).foldl oL l) ∧ Srt ((lb.map (extF arc g)).foldl oL l) ∧ BD ((lb.map (extF arc g)).foldl oL l) ∧ FR m m' a := by
  obtain ⟨m1, hE, h1, h2, h3, h4⟩ := l_offerExt (L := L) (xs := xs) (t := t) (d := d) ha hb hsep rfl hx0 hg hg2 lb.length 0 l m (by omega) hr hs hbd hrb
  refine ⟨m1, ?_, h1, h2, h3, h4⟩
  refine ev_go (pc' := 3) (ls' := [some (vR (some a)), some (vR (some b)), some (vJ arc), none, some (vI g), some (vI 0)]) (st' := []) (h1 := HS t m) 2 (by rfl) ?_
  exact hE
