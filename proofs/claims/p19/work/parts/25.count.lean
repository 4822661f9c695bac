/-! ===== counting in the texts ===== -/
theorem likeF_bd (x y : Int) : 0 ≤ likeF x y ∧ likeF x y ≤ 4 := by
  unfold likeF; repeat (first | split | omega)
def RW (m : mMM) (b : Nat) (f : Nat → Int) : Prop := ∀ k, k < 5 → m b k = f k
def FRo (m m' : mMM) (b : Nat) : Prop := ∀ c k, c ≠ b → m' c k = m c k
theorem FRo_trans {m m1 m2 : mMM} {a : Nat} (h : FRo m m1 a) (h2 : FRo m1 m2 a) : FRo m m2 a := fun b k x => (h2 b k x).trans (h b k x)
def gt (l : List (Int × Nat)) (k : Nat) : Int × Nat := l.getD k (0, 0)
def TXR (m : mMM) (a : Nat) (l : List (Int × Nat)) : Prop := m a 2 = (l.length : Int) ∧ l.length ≤ 6 ∧ ∀ k, k < l.length → m (a + 1) k = (gt l k).1 ∧ m (a + 2) k = ((gt l k).2 : Int)
def WT (l : List (Int × Nat)) : Prop := ∀ x, x ∈ l → 0 ≤ x.1 ∧ x.1 < 2147483648 ∧ x.2 < 5
theorem gt_get (l : List (Int × Nat)) {k : Nat} (h : k < l.length) : gt l k = l[k] := by simp [gt, h]
theorem gt_mem {l : List (Int × Nat)} {k : Nat} (h : k < l.length) : gt l k ∈ l := by rw [gt_get l h]; exact List.getElem_mem h
theorem drop_gt {l : List (Int × Nat)} {i : Nat} (h : i < l.length) : l.drop i = gt l i :: l.drop (i + 1) := by
  rw [gt_get l h]; exact List.drop_eq_getElem_cons h
theorem z5_ne (m : mMM) (a : Nat) {b k : Nat} (h : b ≠ a) : z5 m a b k = m b k := by
  unfold z5; rw [up_ne1 _ _ h, up_ne1 _ _ h, up_ne1 _ _ h, up_ne1 _ _ h, up_ne1 _ _ h]
theorem rfl0 (m : mMM) (a : Nat) : z5 m a a 0 = 0 := by unfold z5; rw [up_ne2 _ _ (by decide)]; rw [up_ne2 _ _ (by decide)]; rw [up_ne2 _ _ (by decide)]; rw [up_ne2 _ _ (by decide)]; rw [up_eq]
theorem rfl1 (m : mMM) (a : Nat) : z5 m a a 1 = 0 := by unfold z5; rw [up_ne2 _ _ (by decide)]; rw [up_ne2 _ _ (by decide)]; rw [up_ne2 _ _ (by decide)]; rw [up_eq]
theorem rfl2 (m : mMM) (a : Nat) : z5 m a a 2 = 0 := by unfold z5; rw [up_ne2 _ _ (by decide)]; rw [up_ne2 _ _ (by decide)]; rw [up_eq]
theorem rfl3 (m : mMM) (a : Nat) : z5 m a a 3 = 0 := by unfold z5; rw [up_ne2 _ _ (by decide)]; rw [up_eq]
theorem rfl4 (m : mMM) (a : Nat) : z5 m a a 4 = 0 := by unfold z5; rw [up_eq]
theorem z5_at (m : mMM) (a : Nat) : ∀ k, k < 5 → z5 m a a k = 0
  | 0, _ => rfl0 m a
  | 1, _ => rfl1 m a
  | 2, _ => rfl2 m a
  | 3, _ => rfl3 m a
  | 4, _ => rfl4 m a
  | k + 5, h => absurd h (by omega)
def cnt (w : Int) (s : Int × (Nat → Int)) (x : Int × Nat) : Int × (Nat → Int) :=
  if s.1 < likeF x.1 w then (likeF x.1 w, fun k => if k = x.2 then 1 else 0)
  else if likeF x.1 w = s.1 then (s.1, fun k => if k = x.2 then s.2 k + 1 else s.2 k) else s
set_option maxRecDepth 10000 in
theorem l_count {L : Nat} {xs : Nat → Int32} {t : Bool × Nat × Nat} {d a b n : Nat} {w m0 : Int} {l : List (Int × Nat)} (ha : TX a) (hb : kd b = (1, 5)) (hs1 : b ≠ a) (hs2 : b ≠ a + 1) (hs3 : b ≠ a + 2) (hl : l.length = n) (hW : WT l) (hw0 : 0 ≤ w) (hw1 : w < 2147483648) : ∀ (c i : Nat) (mo : Int) (f : Nat → Int) (m : mMM) (q : Option mMV), i + c = n → TXR m a l → 0 ≤ mo → mo ≤ 4 → RW m b f → ∃ m', Ev (PP L xs) (d + 1) 18 6 [some (vR (some a)), some (vI w), some (vI m0), some (vR (some b)), some (vI mo), some (vI (i : Int)), q] [] (HS t m) (.inl (some (vI ((l.drop i).foldl (cnt w) (mo, f)).1))) (HS t m') ∧ RW m' b ((l.drop i).foldl (cnt w) (mo, f)).2 ∧ FRo m m' b ∧ 0 ≤ ((l.drop i).foldl (cnt w) (mo, f)).1 ∧ ((l.drop i).foldl (cnt w) (mo, f)).1 ≤ 4 := by
  intro c
  induction c with
  | zero =>
    intro i mo f m q hi ht h0 h4 hr
    have e : l.drop i = [] := List.drop_eq_nil_of_le (by omega)
    rw [e]
    refine ⟨m, ?_, hr, fun _ _ _ => rfl, h0, h4⟩
    refine ev_go (pc' := 9) (ls' := [some (vR (some a)), some (vI w), some (vI m0), some (vR (some b)), some (vI mo), some (vI ((i : Nat) : Int)), q]) (st' := [vR (some a), vI ((i : Nat) : Int)]) (h1 := HS t m) 2 (by rfl) ?_
    refine ev_getIv (v := ((n : Nat) : Int)) rfl ha.1 ((by rw [ht.1, hl])) ?_
    refine ev_ic3 rfl (inI_of (by have := ht.2.1; omega) (by have := ht.2.1; omega)) (inI_of (by have := ht.2.1; omega) (by have := ht.2.1; omega)) (fun c12 => ?_) (fun c12 => absurd c12 (by omega))
    refine ev_go (pc' := 71) (ls' := [some (vR (some a)), some (vI w), some (vI m0), some (vR (some b)), some (vI mo), some (vI ((i : Nat) : Int)), q]) (st' := [vI mo]) (h1 := HS t m) 1 (by rfl) ?_
    exact ev_retE rfl rfl (by first | rfl | (simp [*]; done) | (split <;> first | rfl | (exfalso; omega))) (by first | rfl | (simp [*]; done) | (split <;> first | rfl | (exfalso; omega)))
  | succ c IH =>
    intro i mo f m q hi ht h0 h4 hr
    have hl6 := ht.2.1
    have hv := ht.2.2 i (by omega)
    have hx := hW (gt l i) (gt_mem (by omega))
    have hgi : m (a + 2) i = ((gt l i).2 : Int) := hv.2
    generalize hG : (gt l i).2 = g at *
    have hlk := likeF_bd (m (a + 1) i) w
    have hlkI : inI (likeF (m (a + 1) i) w) = true := inI_of (by omega) (by omega)
    have hcl := c_likeness (L := L) (xs := xs) (d := d) (t := t) (m := m) (x := m (a + 1) i) (y := w) (by rw [hv.1]; exact hx.1) (by rw [hv.1]; exact hx.2.1) hw0 hw1
    rw [drop_gt (by omega : i < l.length), List.foldl_cons]
    by_cases k1 : mo < likeF (m (a + 1) i) w
    · have ec : cnt w (mo, f) (gt l i) = (likeF (m (a + 1) i) w, fun k => if k = g then 1 else 0) := by
        unfold cnt; rw [← hv.1, hG, if_pos k1]
      rw [ec]
      have hF : FRo m (up (z5 m b) b g (z5 m b b g + 1)) b := fun c k hc => by rw [up_ne1 _ _ hc, z5_ne _ _ hc]
      have hR : RW (up (z5 m b) b g (z5 m b b g + 1)) b (fun k => if k = g then 1 else 0) := by
        intro k hk
        by_cases c : k = g
        · subst c; rw [up_eq, z5_at m b _ hk]; exact (if_pos rfl).symm
        · rw [up_ne2 _ _ c, z5_at m b k hk]; exact (if_neg c).symm
      have ht1 : TXR (up (z5 m b) b g (z5 m b b g + 1)) a l := ⟨by rw [hF a 2 (by omega)]; exact ht.1, ht.2.1, fun k hk => ⟨by rw [hF (a + 1) k (by omega)]; exact (ht.2.2 k hk).1, by rw [hF (a + 2) k (by omega)]; exact (ht.2.2 k hk).2⟩⟩
      obtain ⟨m2, hE2, hR2, hF2, h02, h42⟩ := IH (i + 1) (likeF (m (a + 1) i) w) (fun k => if k = g then 1 else 0) (up (z5 m b) b g (z5 m b b g + 1)) (some (vI (likeF (m (a + 1) i) w))) (by omega) ht1 (by omega) (by omega) hR
      refine ⟨m2, ?_, hR2, FRo_trans hF hF2, h02, h42⟩
      refine ev_go (pc' := 9) (ls' := [some (vR (some a)), some (vI w), some (vI m0), some (vR (some b)), some (vI mo), some (vI ((i : Nat) : Int)), q]) (st' := [vR (some a), vI ((i : Nat) : Int)]) (h1 := HS t m) 2 (by rfl) ?_
      refine ev_getIv (v := ((n : Nat) : Int)) rfl ha.1 ((by rw [ht.1, hl])) ?_
      refine ev_ic3 rfl (inI_of (by have := ht.2.1; omega) (by have := ht.2.1; omega)) (inI_of (by have := ht.2.1; omega) (by have := ht.2.1; omega)) (fun c12 => absurd c12 (by omega)) (fun c12 => ?_)
      refine ev_go (pc' := 16) (ls' := [some (vR (some a)), some (vI w), some (vI m0), some (vR (some b)), some (vI mo), some (vI ((i : Nat) : Int)), q]) (st' := [vR (some a)]) (h1 := HS t m) 1 (by rfl) ?_
      refine ev_getR rfl ha.1 (ha.2.2.2.1 : rf a 0 = some (a + 1)) ?_
      refine ev_go (pc' := 21) (ls' := [some (vR (some a)), some (vI w), some (vI m0), some (vR (some b)), some (vI mo), some (vI ((i : Nat) : Int)), q]) (st' := [vI ((i : Nat) : Int), vR (some (a + 1))]) (h1 := HS t m) 1 (by rfl) ?_
      refine ev_iald (k := i) rfl ha.2.1 rfl (by omega) ?_
      refine ev_go (pc' := 23) (ls' := [some (vR (some a)), some (vI w), some (vI m0), some (vR (some b)), some (vI mo), some (vI ((i : Nat) : Int)), q]) (st' := [vI w, vI (m (a + 1) i)]) (h1 := HS t m) 1 (by rfl) ?_
      refine ev_call rfl rfl (Nat.le_of_ble_eq_true rfl) hcl ⟨Nat.le_refl _, Nat.le_refl _⟩ ?_
      show Ev (PP L xs) _ 18 26 [some (vR (some a)), some (vI w), some (vI m0), some (vR (some b)), some (vI mo), some (vI ((i : Nat) : Int)), q] [vI (likeF (m (a + 1) i) w)] (HS t m) _ _
      refine ev_go (pc' := 32) (ls' := [some (vR (some a)), some (vI w), some (vI m0), some (vR (some b)), some (vI mo), some (vI ((i : Nat) : Int)), some (vI (likeF (m (a + 1) i) w))]) (st' := [vI mo, vI (likeF (m (a + 1) i) w)]) (h1 := HS t m) 3 (by rfl) ?_
      refine ev_ic5 rfl hlkI (inI_of (by omega) (by omega)) (fun c32 => absurd c32 (by omega)) (fun c32 => ?_)
      refine ev_go (pc' := 40) (ls' := [some (vR (some a)), some (vI w), some (vI m0), some (vR (some b)), some (vI (likeF (m (a + 1) i) w)), some (vI ((i : Nat) : Int)), some (vI (likeF (m (a + 1) i) w))]) (st' := [vR (some b)]) (h1 := HS t m) 3 (by rfl) ?_
      refine ev_call rfl rfl (Nat.le_of_ble_eq_true rfl) (c_clearRow hb) ⟨Nat.le_refl _, Nat.le_refl _⟩ ?_
      show Ev (PP L xs) _ 18 43 [some (vR (some a)), some (vI w), some (vI m0), some (vR (some b)), some (vI (likeF (m (a + 1) i) w)), some (vI ((i : Nat) : Int)), some (vI (likeF (m (a + 1) i) w))] [] (HS t (z5 m b)) _ _
      refine ev_go (pc' := 47) (ls' := [some (vR (some a)), some (vI w), some (vI m0), some (vR (some b)), some (vI (likeF (m (a + 1) i) w)), some (vI ((i : Nat) : Int)), some (vI (likeF (m (a + 1) i) w))]) (st' := [vI (likeF (m (a + 1) i) w), vI (likeF (m (a + 1) i) w)]) (h1 := HS t (z5 m b)) 2 (by rfl) ?_
      refine ev_ic1 rfl hlkI hlkI (fun c47 => absurd c47 (fun h => h rfl)) (fun c47 => ?_)
      refine ev_go (pc' := 52) (ls' := [some (vR (some a)), some (vI w), some (vI m0), some (vR (some b)), some (vI (likeF (m (a + 1) i) w)), some (vI ((i : Nat) : Int)), some (vI (likeF (m (a + 1) i) w))]) (st' := [vR (some a), vR (some b)]) (h1 := HS t (z5 m b)) 2 (by rfl) ?_
      refine ev_getR rfl ha.1 (ha.2.2.2.2 : rf a 1 = some (a + 2)) ?_
      refine ev_go (pc' := 57) (ls' := [some (vR (some a)), some (vI w), some (vI m0), some (vR (some b)), some (vI (likeF (m (a + 1) i) w)), some (vI ((i : Nat) : Int)), some (vI (likeF (m (a + 1) i) w))]) (st' := [vI ((i : Nat) : Int), vR (some (a + 2)), vR (some b)]) (h1 := HS t (z5 m b)) 1 (by rfl) ?_
      refine ev_ialdv (k := i) (v := (m (a + 2) i)) rfl ha.2.2.1 rfl (by omega) ((z5_ne _ _ (by omega))) ?_
      refine ev_go (pc' := 59) (ls' := [some (vR (some a)), some (vI w), some (vI m0), some (vR (some b)), some (vI (likeF (m (a + 1) i) w)), some (vI ((i : Nat) : Int)), some (vI (likeF (m (a + 1) i) w))]) (st' := [vI (m (a + 2) i), vR (some b), vI (m (a + 2) i), vR (some b)]) (h1 := HS t (z5 m b)) 1 (by rfl) ?_
      refine ev_iald (k := g) rfl hb hgi (by omega) ?_
      refine ev_go (pc' := 62) (ls' := [some (vR (some a)), some (vI w), some (vI m0), some (vR (some b)), some (vI (likeF (m (a + 1) i) w)), some (vI ((i : Nat) : Int)), some (vI (likeF (m (a + 1) i) w))]) (st' := [vI (((z5 m b) b g) + 1), vI (m (a + 2) i), vR (some b)]) (h1 := HS t (z5 m b)) 2 (by rfl) ?_
      refine ev_iast (k := g) rfl hb hgi (by omega) ?_
      refine ev_go (pc' := 6) (ls' := [some (vR (some a)), some (vI w), some (vI m0), some (vR (some b)), some (vI (likeF (m (a + 1) i) w)), some (vI ((i + 1 : Nat) : Int)), some (vI (likeF (m (a + 1) i) w))]) (st' := []) (h1 := HS t (up (z5 m b) b g (((z5 m b) b g) + 1))) 2 (by rfl) ?_
      exact hE2
    · by_cases k2 : likeF (m (a + 1) i) w = mo
      · have ec : cnt w (mo, f) (gt l i) = (mo, fun k => if k = g then f k + 1 else f k) := by
          unfold cnt; rw [← hv.1, hG, if_neg k1, if_pos k2]
        rw [ec]
        have hF : FRo m (up m b g (m b g + 1)) b := fun c k hc => by rw [up_ne1 _ _ hc]
        have hR : RW (up m b g (m b g + 1)) b (fun k => if k = g then f k + 1 else f k) := by
          intro k hk
          by_cases c : k = g
          · subst c; rw [up_eq, hr _ hk]; exact (if_pos rfl).symm
          · rw [up_ne2 _ _ c, hr k hk]; exact (if_neg c).symm
        have ht1 : TXR (up m b g (m b g + 1)) a l := ⟨by rw [hF a 2 (by omega)]; exact ht.1, ht.2.1, fun k hk => ⟨by rw [hF (a + 1) k (by omega)]; exact (ht.2.2 k hk).1, by rw [hF (a + 2) k (by omega)]; exact (ht.2.2 k hk).2⟩⟩
        obtain ⟨m2, hE2, hR2, hF2, h02, h42⟩ := IH (i + 1) (mo) (fun k => if k = g then f k + 1 else f k) (up m b g (m b g + 1)) (some (vI (likeF (m (a + 1) i) w))) (by omega) ht1 (by omega) (by omega) hR
        refine ⟨m2, ?_, hR2, FRo_trans hF hF2, h02, h42⟩
        refine ev_go (pc' := 9) (ls' := [some (vR (some a)), some (vI w), some (vI m0), some (vR (some b)), some (vI mo), some (vI ((i : Nat) : Int)), q]) (st' := [vR (some a), vI ((i : Nat) : Int)]) (h1 := HS t m) 2 (by rfl) ?_
        refine ev_getIv (v := ((n : Nat) : Int)) rfl ha.1 ((by rw [ht.1, hl])) ?_
        refine ev_ic3 rfl (inI_of (by have := ht.2.1; omega) (by have := ht.2.1; omega)) (inI_of (by have := ht.2.1; omega) (by have := ht.2.1; omega)) (fun c12 => absurd c12 (by omega)) (fun c12 => ?_)
        refine ev_go (pc' := 16) (ls' := [some (vR (some a)), some (vI w), some (vI m0), some (vR (some b)), some (vI mo), some (vI ((i : Nat) : Int)), q]) (st' := [vR (some a)]) (h1 := HS t m) 1 (by rfl) ?_
        refine ev_getR rfl ha.1 (ha.2.2.2.1 : rf a 0 = some (a + 1)) ?_
        refine ev_go (pc' := 21) (ls' := [some (vR (some a)), some (vI w), some (vI m0), some (vR (some b)), some (vI mo), some (vI ((i : Nat) : Int)), q]) (st' := [vI ((i : Nat) : Int), vR (some (a + 1))]) (h1 := HS t m) 1 (by rfl) ?_
        refine ev_iald (k := i) rfl ha.2.1 rfl (by omega) ?_
        refine ev_go (pc' := 23) (ls' := [some (vR (some a)), some (vI w), some (vI m0), some (vR (some b)), some (vI mo), some (vI ((i : Nat) : Int)), q]) (st' := [vI w, vI (m (a + 1) i)]) (h1 := HS t m) 1 (by rfl) ?_
        refine ev_call rfl rfl (Nat.le_of_ble_eq_true rfl) hcl ⟨Nat.le_refl _, Nat.le_refl _⟩ ?_
        show Ev (PP L xs) _ 18 26 [some (vR (some a)), some (vI w), some (vI m0), some (vR (some b)), some (vI mo), some (vI ((i : Nat) : Int)), q] [vI (likeF (m (a + 1) i) w)] (HS t m) _ _
        refine ev_go (pc' := 32) (ls' := [some (vR (some a)), some (vI w), some (vI m0), some (vR (some b)), some (vI mo), some (vI ((i : Nat) : Int)), some (vI (likeF (m (a + 1) i) w))]) (st' := [vI mo, vI (likeF (m (a + 1) i) w)]) (h1 := HS t m) 3 (by rfl) ?_
        refine ev_ic5 rfl hlkI (inI_of (by omega) (by omega)) (fun c32 => ?_) (fun c32 => absurd c32 (by omega))
        refine ev_go (pc' := 47) (ls' := [some (vR (some a)), some (vI w), some (vI m0), some (vR (some b)), some (vI mo), some (vI ((i : Nat) : Int)), some (vI (likeF (m (a + 1) i) w))]) (st' := [vI mo, vI (likeF (m (a + 1) i) w)]) (h1 := HS t m) 2 (by rfl) ?_
        refine ev_ic1 rfl hlkI (inI_of (by omega) (by omega)) (fun c47 => absurd c47 (by omega)) (fun c47 => ?_)
        refine ev_go (pc' := 52) (ls' := [some (vR (some a)), some (vI w), some (vI m0), some (vR (some b)), some (vI mo), some (vI ((i : Nat) : Int)), some (vI (likeF (m (a + 1) i) w))]) (st' := [vR (some a), vR (some b)]) (h1 := HS t m) 2 (by rfl) ?_
        refine ev_getR rfl ha.1 (ha.2.2.2.2 : rf a 1 = some (a + 2)) ?_
        refine ev_go (pc' := 57) (ls' := [some (vR (some a)), some (vI w), some (vI m0), some (vR (some b)), some (vI mo), some (vI ((i : Nat) : Int)), some (vI (likeF (m (a + 1) i) w))]) (st' := [vI ((i : Nat) : Int), vR (some (a + 2)), vR (some b)]) (h1 := HS t m) 1 (by rfl) ?_
        refine ev_iald (k := i) rfl ha.2.2.1 rfl (by omega) ?_
        refine ev_go (pc' := 59) (ls' := [some (vR (some a)), some (vI w), some (vI m0), some (vR (some b)), some (vI mo), some (vI ((i : Nat) : Int)), some (vI (likeF (m (a + 1) i) w))]) (st' := [vI (m (a + 2) i), vR (some b), vI (m (a + 2) i), vR (some b)]) (h1 := HS t m) 1 (by rfl) ?_
        refine ev_iald (k := g) rfl hb hgi (by omega) ?_
        refine ev_go (pc' := 62) (ls' := [some (vR (some a)), some (vI w), some (vI m0), some (vR (some b)), some (vI mo), some (vI ((i : Nat) : Int)), some (vI (likeF (m (a + 1) i) w))]) (st' := [vI ((m b g) + 1), vI (m (a + 2) i), vR (some b)]) (h1 := HS t m) 2 (by rfl) ?_
        refine ev_iast (k := g) rfl hb hgi (by omega) ?_
        refine ev_go (pc' := 6) (ls' := [some (vR (some a)), some (vI w), some (vI m0), some (vR (some b)), some (vI mo), some (vI ((i + 1 : Nat) : Int)), some (vI (likeF (m (a + 1) i) w))]) (st' := []) (h1 := HS t (up m b g ((m b g) + 1))) 2 (by rfl) ?_
        exact hE2
      · have ec : cnt w (mo, f) (gt l i) = (mo, f) := by
          unfold cnt; rw [← hv.1, if_neg k1, if_neg k2]
        rw [ec]
        have hF : FRo m m b := fun _ _ _ => rfl
        have hR : RW m b (f) := by
          exact hr
        have ht1 : TXR m a l := ⟨by rw [hF a 2 (by omega)]; exact ht.1, ht.2.1, fun k hk => ⟨by rw [hF (a + 1) k (by omega)]; exact (ht.2.2 k hk).1, by rw [hF (a + 2) k (by omega)]; exact (ht.2.2 k hk).2⟩⟩
        obtain ⟨m2, hE2, hR2, hF2, h02, h42⟩ := IH (i + 1) (mo) (f) m (some (vI (likeF (m (a + 1) i) w))) (by omega) ht1 (by omega) (by omega) hR
        refine ⟨m2, ?_, hR2, FRo_trans hF hF2, h02, h42⟩
        refine ev_go (pc' := 9) (ls' := [some (vR (some a)), some (vI w), some (vI m0), some (vR (some b)), some (vI mo), some (vI ((i : Nat) : Int)), q]) (st' := [vR (some a), vI ((i : Nat) : Int)]) (h1 := HS t m) 2 (by rfl) ?_
        refine ev_getIv (v := ((n : Nat) : Int)) rfl ha.1 ((by rw [ht.1, hl])) ?_
        refine ev_ic3 rfl (inI_of (by have := ht.2.1; omega) (by have := ht.2.1; omega)) (inI_of (by have := ht.2.1; omega) (by have := ht.2.1; omega)) (fun c12 => absurd c12 (by omega)) (fun c12 => ?_)
        refine ev_go (pc' := 16) (ls' := [some (vR (some a)), some (vI w), some (vI m0), some (vR (some b)), some (vI mo), some (vI ((i : Nat) : Int)), q]) (st' := [vR (some a)]) (h1 := HS t m) 1 (by rfl) ?_
        refine ev_getR rfl ha.1 (ha.2.2.2.1 : rf a 0 = some (a + 1)) ?_
        refine ev_go (pc' := 21) (ls' := [some (vR (some a)), some (vI w), some (vI m0), some (vR (some b)), some (vI mo), some (vI ((i : Nat) : Int)), q]) (st' := [vI ((i : Nat) : Int), vR (some (a + 1))]) (h1 := HS t m) 1 (by rfl) ?_
        refine ev_iald (k := i) rfl ha.2.1 rfl (by omega) ?_
        refine ev_go (pc' := 23) (ls' := [some (vR (some a)), some (vI w), some (vI m0), some (vR (some b)), some (vI mo), some (vI ((i : Nat) : Int)), q]) (st' := [vI w, vI (m (a + 1) i)]) (h1 := HS t m) 1 (by rfl) ?_
        refine ev_call rfl rfl (Nat.le_of_ble_eq_true rfl) hcl ⟨Nat.le_refl _, Nat.le_refl _⟩ ?_
        show Ev (PP L xs) _ 18 26 [some (vR (some a)), some (vI w), some (vI m0), some (vR (some b)), some (vI mo), some (vI ((i : Nat) : Int)), q] [vI (likeF (m (a + 1) i) w)] (HS t m) _ _
        refine ev_go (pc' := 32) (ls' := [some (vR (some a)), some (vI w), some (vI m0), some (vR (some b)), some (vI mo), some (vI ((i : Nat) : Int)), some (vI (likeF (m (a + 1) i) w))]) (st' := [vI mo, vI (likeF (m (a + 1) i) w)]) (h1 := HS t m) 3 (by rfl) ?_
        refine ev_ic5 rfl hlkI (inI_of (by omega) (by omega)) (fun c32 => ?_) (fun c32 => absurd c32 (by omega))
        refine ev_go (pc' := 47) (ls' := [some (vR (some a)), some (vI w), some (vI m0), some (vR (some b)), some (vI mo), some (vI ((i : Nat) : Int)), some (vI (likeF (m (a + 1) i) w))]) (st' := [vI mo, vI (likeF (m (a + 1) i) w)]) (h1 := HS t m) 2 (by rfl) ?_
        refine ev_ic1 rfl hlkI (inI_of (by omega) (by omega)) (fun c47 => ?_) (fun c47 => absurd c47 (by omega))
        refine ev_go (pc' := 6) (ls' := [some (vR (some a)), some (vI w), some (vI m0), some (vR (some b)), some (vI mo), some (vI ((i + 1 : Nat) : Int)), some (vI (likeF (m (a + 1) i) w))]) (st' := []) (h1 := HS t m) 2 (by rfl) ?_
        exact hE2
set_option maxRecDepth 10000 in
theorem c_count {L : Nat} {xs : Nat → Int32} {t : Bool × Nat × Nat} {d a b : Nat} {m : mMM} {w mo : Int} {f : Nat → Int} {l : List (Int × Nat)} (ha : TX a) (hb : kd b = (1, 5)) (hs1 : b ≠ a) (hs2 : b ≠ a + 1) (hs3 : b ≠ a + 2) (hW : WT l) (hw0 : 0 ≤ w) (hw1 : w < 2147483648) (ht : TXR m a l) (h0 : 0 ≤ mo) (h4 : mo ≤ 4) (hr : RW m b f) : ∃ m', Ev (PP L xs) (d + 1) 18 0 (entL 7 [vR (some a), vI w, vI mo, vR (some b)]) [] (HS t m) (.inl (some (vI (l.foldl (cnt w) (mo, f)).1))) (HS t m') ∧ RW m' b (l.foldl (cnt w) (mo, f)).2 ∧ FRo m m' b ∧ 0 ≤ (l.foldl (cnt w) (mo, f)).1 ∧ (l.foldl (cnt w) (mo, f)).1 ≤ 4 := by
  obtain ⟨m1, hE, h1, h2, h3, h4⟩ := l_count (L := L) (xs := xs) (t := t) (d := d) (m0 := mo) ha hb hs1 hs2 hs3 rfl hW hw0 hw1 l.length 0 mo f m none (by omega) ht h0 h4 hr
  refine ⟨m1, ?_, h1, h2, h3, h4⟩
  refine ev_go (pc' := 6) (ls' := [some (vR (some a)), some (vI w), some (vI mo), some (vR (some b)), some (vI mo), some (vI 0), none]) (st' := []) (h1 := HS t m) 4 (by rfl) ?_
  exact hE
