/-! ===== the model: goes ===== -/
def FRz (m m' : mMM) : Prop := ∀ b k, (b ≠ 190 ∨ (k ≠ 19 ∧ k ≠ 20 ∧ k ≠ 21)) → b ≠ 202 → b ≠ 203 → m' b k = m b k
theorem FRz_trans {m m1 m2 : mMM} (h : FRz m m1) (h2 : FRz m1 m2) : FRz m m2 := fun b k x y z => (h2 b k x y z).trans (h b k x y z)
theorem RKM_fr {m m' : mMM} {l : List Pr} (h19 : m' 190 19 = m 190 19) (h : ∀ b k, b = 202 ∨ b = 203 → m' b k = m b k) (hr : RKM m l) : RKM m' l :=
  ⟨by rw [h19]; exact hr.1, hr.2.1, fun k hk => by rw [h 202 k (Or.inl rfl), h 203 k (Or.inr rfl)]; exact hr.2.2 k hk⟩
set_option maxRecDepth 10000 in
theorem ml_tail {L : Nat} {xs : Nat → Int32} {t : Bool × Nat × Nat} {d P G q r : Nat} {w : Int} {m : mMM} {l : List Pr} {z : Option mMV} (hr : RKM m l) (hwJ : inJ w = true) (hrl : r ≤ l.length) (hb1 : ∀ k, k < r → bet (w, (q : Int)) (gl l k) = false) (hb2 : r < l.length → bet (w, (q : Int)) (gl l r) = true) : ∃ m' z', RKM m' (oL l (w, (q : Int))) ∧ (∀ b k, (b ≠ 190 ∨ k ≠ 19) → b ≠ 202 → b ≠ 203 → m' b k = m b k) ∧ ∀ o h', Ev (PP L xs) d 113 211 [some (vR (some 190)), some (vI ((P : Nat) : Int)), some (vI ((G : Nat) : Int)), some (vI ((q : Nat) : Int)), some (vJ w), none, some (vI ((r : Nat) : Int)), z'] [] (HS t m') o h' → Ev (PP L xs) d 113 104 [some (vR (some 190)), some (vI ((P : Nat) : Int)), some (vI ((G : Nat) : Int)), some (vI ((q : Nat) : Int)), some (vJ w), none, some (vI ((r : Nat) : Int)), z] [] (HS t m) o h' := by
  have hl10 := hr.2.1
  by_cases hw : 0 < w
  · by_cases h10 : r < 10
    · by_cases hlt : l.length < 10
      · obtain ⟨m2, s1, s2, s3, sK⟩ := ml_shift (L := L) (xs := xs) (t := t) (d := d) (P := P) (G := G) (q := q) (r := r) (w := w) (l.length) (up m 190 19 ((l.length + 1 : Nat) : Int)) (by omega) (by omega)
        refine ⟨(up (up m2 202 r w) 203 r ((q : Nat) : Int)), some (vI (r : Int)), RKM_ins hr hw hrl hb1 hb2 ?_ (fun k hk => ?_), fun b k h1 h2 h3 => ?_, fun o h' hE => ?_⟩
        · rw [up_ne1 _ _ (by decide), up_ne1 _ _ (by decide), s3 190 19 (by decide) (by decide), up_eq]; omega
        · rw [up_ne1 (b := 202) _ _ (by decide)]
          by_cases c2 : k = r
          · rw [c2, up_eq, up_eq, if_neg (Nat.lt_irrefl r), if_pos rfl, if_neg (Nat.lt_irrefl r), if_pos rfl]; exact ⟨rfl, rfl⟩
          · rw [up_ne2 _ _ c2, up_ne2 _ _ c2, up_ne1 (b := 203) _ _ (by decide), s1 k, s2 k, up_ne1 (b := 202) _ _ (by decide), up_ne1 (b := 202) _ _ (by decide), up_ne1 (b := 203) _ _ (by decide), up_ne1 (b := 203) _ _ (by decide)]
            by_cases c1 : k < r
            · rw [if_neg (show ¬ (r < k ∧ k ≤ l.length) by omega), if_neg (show ¬ (r < k ∧ k ≤ l.length) by omega), if_pos c1, if_pos c1]; exact ⟨rfl, rfl⟩
            · rw [if_pos (show r < k ∧ k ≤ l.length by omega), if_pos (show r < k ∧ k ≤ l.length by omega), if_neg c1, if_neg c1, if_neg c2, if_neg c2]; exact ⟨rfl, rfl⟩
        · rw [up_ne1 _ _ h3, up_ne1 _ _ h2, s3 b k h2 h3, up_ne _ _ (by omega)]
        · refine ev_go (pc' := 107) (ls' := [some (vR (some 190)), some (vI ((P : Nat) : Int)), some (vI ((G : Nat) : Int)), some (vI ((q : Nat) : Int)), some (vJ w), none, some (vI ((r : Nat) : Int)), z]) (st' := [vJ 0, vJ w]) (h1 := HS t m) 2 (by rfl) ?_
          refine ev_lcmp rfl hwJ rfl ?_
          refine ev_if5 rfl (cmp_in _ _) (fun c108 => absurd (cz_le c108) (by omega)) (fun c108 => ?_)
          refine ev_go (pc' := 115) (ls' := [some (vR (some 190)), some (vI ((P : Nat) : Int)), some (vI ((G : Nat) : Int)), some (vI ((q : Nat) : Int)), some (vJ w), none, some (vI ((r : Nat) : Int)), z]) (st' := [vI 10, vI ((r : Nat) : Int)]) (h1 := HS t m) 2 (by rfl) ?_
          refine ev_ic3 rfl (inI_of (by omega) (by omega)) rfl (fun c115 => absurd c115 (by omega)) (fun c115 => ?_)
          refine ev_go (pc' := 120) (ls' := [some (vR (some 190)), some (vI ((P : Nat) : Int)), some (vI ((G : Nat) : Int)), some (vI ((q : Nat) : Int)), some (vJ w), none, some (vI ((r : Nat) : Int)), z]) (st' := [vR (some 190), vR (some 190)]) (h1 := HS t m) 2 (by rfl) ?_
          refine ev_getIv (v := ((l.length : Nat) : Int)) rfl rfl (hr.1) ?_
          refine ev_go (pc' := 124) (ls' := [some (vR (some 190)), some (vI ((P : Nat) : Int)), some (vI ((G : Nat) : Int)), some (vI ((q : Nat) : Int)), some (vJ w), none, some (vI ((r : Nat) : Int)), z]) (st' := [vR (some 190), vI ((l.length : Nat) : Int), vR (some 190)]) (h1 := HS t m) 1 (by rfl) ?_
          refine ev_getIv (v := ((l.length : Nat) : Int)) rfl rfl (hr.1) ?_
          refine ev_go (pc' := 129) (ls' := [some (vR (some 190)), some (vI ((P : Nat) : Int)), some (vI ((G : Nat) : Int)), some (vI ((q : Nat) : Int)), some (vJ w), none, some (vI ((r : Nat) : Int)), z]) (st' := [vI 10, vI ((l.length : Nat) : Int), vI ((l.length : Nat) : Int), vR (some 190)]) (h1 := HS t m) 1 (by rfl) ?_
          refine ev_ic3 rfl (inI_of (by omega) (by omega)) rfl (fun c129 => absurd c129 (by omega)) (fun c129 => ?_)
          refine ev_go (pc' := 138) (ls' := [some (vR (some 190)), some (vI ((P : Nat) : Int)), some (vI ((G : Nat) : Int)), some (vI ((q : Nat) : Int)), some (vJ w), none, some (vI ((r : Nat) : Int)), z]) (st' := [vI ((l.length + 1 : Nat) : Int), vR (some 190)]) (h1 := HS t m) 3 (by rfl) ?_
          refine ev_putI rfl rfl ?_
          refine ev_go (pc' := 142) (ls' := [some (vR (some 190)), some (vI ((P : Nat) : Int)), some (vI ((G : Nat) : Int)), some (vI ((q : Nat) : Int)), some (vJ w), none, some (vI ((r : Nat) : Int)), z]) (st' := [vR (some 190)]) (h1 := HS t (up m 190 19 ((l.length + 1 : Nat) : Int))) 1 (by rfl) ?_
          refine ev_getIv (v := ((l.length + 1 : Nat) : Int)) rfl rfl (up_eq _ _ _ _) ?_
          refine ev_go (pc' := 149) (ls' := [some (vR (some 190)), some (vI ((P : Nat) : Int)), some (vI ((G : Nat) : Int)), some (vI ((q : Nat) : Int)), some (vJ w), none, some (vI ((r : Nat) : Int)), some (vI (((l.length + 1 : Nat) : Int) - 1))]) (st' := []) (h1 := HS t (up m 190 19 ((l.length + 1 : Nat) : Int))) 3 (by rfl) ?_
          rw [show (((l.length + 1 : Nat) : Int) - 1) = ((l.length : Nat) : Int) by omega]
          refine sK _ _ ?_
          refine ev_go (pc' := 195) (ls' := [some (vR (some 190)), some (vI ((P : Nat) : Int)), some (vI ((G : Nat) : Int)), some (vI ((q : Nat) : Int)), some (vJ w), none, some (vI ((r : Nat) : Int)), some (vI ((r : Nat) : Int))]) (st' := [vR (some 190)]) (h1 := HS t m2) 1 (by rfl) ?_
          refine ev_getR rfl rfl (rfl : rf 190 17 = some 202) ?_
          refine ev_go (pc' := 202) (ls' := [some (vR (some 190)), some (vI ((P : Nat) : Int)), some (vI ((G : Nat) : Int)), some (vI ((q : Nat) : Int)), some (vJ w), none, some (vI ((r : Nat) : Int)), some (vI ((r : Nat) : Int))]) (st' := [vJ w, vI ((r : Nat) : Int), vR (some 202)]) (h1 := HS t m2) 2 (by rfl) ?_
          refine ev_last (k := r) rfl rfl rfl (by omega) ?_
          refine ev_go (pc' := 204) (ls' := [some (vR (some 190)), some (vI ((P : Nat) : Int)), some (vI ((G : Nat) : Int)), some (vI ((q : Nat) : Int)), some (vJ w), none, some (vI ((r : Nat) : Int)), some (vI ((r : Nat) : Int))]) (st' := [vR (some 190)]) (h1 := HS t (up m2 202 r w)) 1 (by rfl) ?_
          refine ev_getR rfl rfl (rfl : rf 190 18 = some 203) ?_
          refine ev_go (pc' := 210) (ls' := [some (vR (some 190)), some (vI ((P : Nat) : Int)), some (vI ((G : Nat) : Int)), some (vI ((q : Nat) : Int)), some (vJ w), none, some (vI ((r : Nat) : Int)), some (vI ((r : Nat) : Int))]) (st' := [vI ((q : Nat) : Int), vI ((r : Nat) : Int), vR (some 203)]) (h1 := HS t (up m2 202 r w)) 2 (by rfl) ?_
          refine ev_iast (k := r) rfl rfl rfl (by omega) ?_
          exact hE
      · have e10 : l.length = 10 := by omega
        obtain ⟨m2, s1, s2, s3, sK⟩ := ml_shift (L := L) (xs := xs) (t := t) (d := d) (P := P) (G := G) (q := q) (r := r) (w := w) (9) (up m 190 19 10) (by omega) (by omega)
        refine ⟨(up (up m2 202 r w) 203 r ((q : Nat) : Int)), some (vI (r : Int)), RKM_ins hr hw hrl hb1 hb2 ?_ (fun k hk => ?_), fun b k h1 h2 h3 => ?_, fun o h' hE => ?_⟩
        · rw [up_ne1 _ _ (by decide), up_ne1 _ _ (by decide), s3 190 19 (by decide) (by decide), up_eq]; omega
        · rw [up_ne1 (b := 202) _ _ (by decide)]
          by_cases c2 : k = r
          · rw [c2, up_eq, up_eq, if_neg (Nat.lt_irrefl r), if_pos rfl, if_neg (Nat.lt_irrefl r), if_pos rfl]; exact ⟨rfl, rfl⟩
          · rw [up_ne2 _ _ c2, up_ne2 _ _ c2, up_ne1 (b := 203) _ _ (by decide), s1 k, s2 k, up_ne1 (b := 202) _ _ (by decide), up_ne1 (b := 202) _ _ (by decide), up_ne1 (b := 203) _ _ (by decide), up_ne1 (b := 203) _ _ (by decide)]
            by_cases c1 : k < r
            · rw [if_neg (show ¬ (r < k ∧ k ≤ 9) by omega), if_neg (show ¬ (r < k ∧ k ≤ 9) by omega), if_pos c1, if_pos c1]; exact ⟨rfl, rfl⟩
            · rw [if_pos (show r < k ∧ k ≤ 9 by omega), if_pos (show r < k ∧ k ≤ 9 by omega), if_neg c1, if_neg c1, if_neg c2, if_neg c2]; exact ⟨rfl, rfl⟩
        · rw [up_ne1 _ _ h3, up_ne1 _ _ h2, s3 b k h2 h3, up_ne _ _ (by omega)]
        · refine ev_go (pc' := 107) (ls' := [some (vR (some 190)), some (vI ((P : Nat) : Int)), some (vI ((G : Nat) : Int)), some (vI ((q : Nat) : Int)), some (vJ w), none, some (vI ((r : Nat) : Int)), z]) (st' := [vJ 0, vJ w]) (h1 := HS t m) 2 (by rfl) ?_
          refine ev_lcmp rfl hwJ rfl ?_
          refine ev_if5 rfl (cmp_in _ _) (fun c108 => absurd (cz_le c108) (by omega)) (fun c108 => ?_)
          refine ev_go (pc' := 115) (ls' := [some (vR (some 190)), some (vI ((P : Nat) : Int)), some (vI ((G : Nat) : Int)), some (vI ((q : Nat) : Int)), some (vJ w), none, some (vI ((r : Nat) : Int)), z]) (st' := [vI 10, vI ((r : Nat) : Int)]) (h1 := HS t m) 2 (by rfl) ?_
          refine ev_ic3 rfl (inI_of (by omega) (by omega)) rfl (fun c115 => absurd c115 (by omega)) (fun c115 => ?_)
          refine ev_go (pc' := 120) (ls' := [some (vR (some 190)), some (vI ((P : Nat) : Int)), some (vI ((G : Nat) : Int)), some (vI ((q : Nat) : Int)), some (vJ w), none, some (vI ((r : Nat) : Int)), z]) (st' := [vR (some 190), vR (some 190)]) (h1 := HS t m) 2 (by rfl) ?_
          refine ev_getIv (v := 10) rfl rfl ((by rw [hr.1, e10]; rfl)) ?_
          refine ev_go (pc' := 124) (ls' := [some (vR (some 190)), some (vI ((P : Nat) : Int)), some (vI ((G : Nat) : Int)), some (vI ((q : Nat) : Int)), some (vJ w), none, some (vI ((r : Nat) : Int)), z]) (st' := [vR (some 190), vI 10, vR (some 190)]) (h1 := HS t m) 1 (by rfl) ?_
          refine ev_getIv (v := 10) rfl rfl ((by rw [hr.1, e10]; rfl)) ?_
          refine ev_go (pc' := 129) (ls' := [some (vR (some 190)), some (vI ((P : Nat) : Int)), some (vI ((G : Nat) : Int)), some (vI ((q : Nat) : Int)), some (vJ w), none, some (vI ((r : Nat) : Int)), z]) (st' := [vI 10, vI 10, vI 10, vR (some 190)]) (h1 := HS t m) 1 (by rfl) ?_
          refine ev_ic3 rfl rfl rfl (fun c129 => ?_) (fun c129 => absurd c129 (by omega))
          refine ev_go (pc' := 138) (ls' := [some (vR (some 190)), some (vI ((P : Nat) : Int)), some (vI ((G : Nat) : Int)), some (vI ((q : Nat) : Int)), some (vJ w), none, some (vI ((r : Nat) : Int)), z]) (st' := [vI 10, vR (some 190)]) (h1 := HS t m) 2 (by rfl) ?_
          refine ev_putI rfl rfl ?_
          refine ev_go (pc' := 142) (ls' := [some (vR (some 190)), some (vI ((P : Nat) : Int)), some (vI ((G : Nat) : Int)), some (vI ((q : Nat) : Int)), some (vJ w), none, some (vI ((r : Nat) : Int)), z]) (st' := [vR (some 190)]) (h1 := HS t (up m 190 19 10)) 1 (by rfl) ?_
          refine ev_getIv (v := 10) rfl rfl (up_eq _ _ _ _) ?_
          refine ev_go (pc' := 149) (ls' := [some (vR (some 190)), some (vI ((P : Nat) : Int)), some (vI ((G : Nat) : Int)), some (vI ((q : Nat) : Int)), some (vJ w), none, some (vI ((r : Nat) : Int)), some (vI 9)]) (st' := []) (h1 := HS t (up m 190 19 10)) 3 (by rfl) ?_
          refine sK _ _ ?_
          refine ev_go (pc' := 195) (ls' := [some (vR (some 190)), some (vI ((P : Nat) : Int)), some (vI ((G : Nat) : Int)), some (vI ((q : Nat) : Int)), some (vJ w), none, some (vI ((r : Nat) : Int)), some (vI ((r : Nat) : Int))]) (st' := [vR (some 190)]) (h1 := HS t m2) 1 (by rfl) ?_
          refine ev_getR rfl rfl (rfl : rf 190 17 = some 202) ?_
          refine ev_go (pc' := 202) (ls' := [some (vR (some 190)), some (vI ((P : Nat) : Int)), some (vI ((G : Nat) : Int)), some (vI ((q : Nat) : Int)), some (vJ w), none, some (vI ((r : Nat) : Int)), some (vI ((r : Nat) : Int))]) (st' := [vJ w, vI ((r : Nat) : Int), vR (some 202)]) (h1 := HS t m2) 2 (by rfl) ?_
          refine ev_last (k := r) rfl rfl rfl (by omega) ?_
          refine ev_go (pc' := 204) (ls' := [some (vR (some 190)), some (vI ((P : Nat) : Int)), some (vI ((G : Nat) : Int)), some (vI ((q : Nat) : Int)), some (vJ w), none, some (vI ((r : Nat) : Int)), some (vI ((r : Nat) : Int))]) (st' := [vR (some 190)]) (h1 := HS t (up m2 202 r w)) 1 (by rfl) ?_
          refine ev_getR rfl rfl (rfl : rf 190 18 = some 203) ?_
          refine ev_go (pc' := 210) (ls' := [some (vR (some 190)), some (vI ((P : Nat) : Int)), some (vI ((G : Nat) : Int)), some (vI ((q : Nat) : Int)), some (vJ w), none, some (vI ((r : Nat) : Int)), some (vI ((r : Nat) : Int))]) (st' := [vI ((q : Nat) : Int), vI ((r : Nat) : Int), vR (some 203)]) (h1 := HS t (up m2 202 r w)) 2 (by rfl) ?_
          refine ev_iast (k := r) rfl rfl rfl (by omega) ?_
          exact hE
    · refine ⟨m, z, RKM_ins hr hw hrl hb1 hb2 (by rw [hr.1]; omega) (fun k hk => ?_), fun _ _ _ _ _ => rfl, fun o h' hE => ?_⟩
      · rw [if_pos (by omega), if_pos (by omega)]; exact ⟨rfl, rfl⟩
      · refine ev_go (pc' := 107) (ls' := [some (vR (some 190)), some (vI ((P : Nat) : Int)), some (vI ((G : Nat) : Int)), some (vI ((q : Nat) : Int)), some (vJ w), none, some (vI ((r : Nat) : Int)), z]) (st' := [vJ 0, vJ w]) (h1 := HS t m) 2 (by rfl) ?_
        refine ev_lcmp rfl hwJ rfl ?_
        refine ev_if5 rfl (cmp_in _ _) (fun c108 => absurd (cz_le c108) (by omega)) (fun c108 => ?_)
        refine ev_go (pc' := 115) (ls' := [some (vR (some 190)), some (vI ((P : Nat) : Int)), some (vI ((G : Nat) : Int)), some (vI ((q : Nat) : Int)), some (vJ w), none, some (vI ((r : Nat) : Int)), z]) (st' := [vI 10, vI ((r : Nat) : Int)]) (h1 := HS t m) 2 (by rfl) ?_
        refine ev_ic3 rfl (inI_of (by omega) (by omega)) rfl (fun c115 => ?_) (fun c115 => absurd c115 (by omega))
        exact hE
  · have e : oL l (w, (q : Int)) = l := if_neg hw
    rw [e]
    refine ⟨m, z, hr, fun _ _ _ _ _ => rfl, fun o h' hE => ?_⟩
    refine ev_go (pc' := 107) (ls' := [some (vR (some 190)), some (vI ((P : Nat) : Int)), some (vI ((G : Nat) : Int)), some (vI ((q : Nat) : Int)), some (vJ w), none, some (vI ((r : Nat) : Int)), z]) (st' := [vJ 0, vJ w]) (h1 := HS t m) 2 (by rfl) ?_
    refine ev_lcmp rfl hwJ rfl ?_
    refine ev_if5 rfl (cmp_in _ _) (fun c108 => ?_) (fun c108 => absurd (cz_gt (show 0 < _ by omega)) (by omega))
    exact hE
set_option maxRecDepth 10000 in
theorem ml_goes {L : Nat} {xs : Nat → Int32} {t : Bool × Nat × Nat} {d n P G : Nat} {a0 : Nat → Int} {aa : Nat → Nat → Nat → Int} (hB : AB a0 aa) (hn5 : n ≤ 5) (hP : P < n) (hG : G < 5) : ∀ (c q : Nat) (l : List Pr) (m : mMM) (y4 y5 y6 y7 : Option mMV), q + c = 5 ^ n → m 190 13 = (n : Int) → HA m a0 aa n → RKM m l → Srt l → (∀ x, x ∈ l → 0 ≤ x.1 ∧ x.1 ≤ 992436543 ∧ x.2 < (q : Int)) → m 190 20 = sumR q (wt a0 aa n) → m 190 21 = sumR q (fun x => if x / 5 ^ (n - 1 - P) % 5 = G then wt a0 aa n x else 0) → ∃ m', Ev (PP L xs) (d + 3) 113 21 [some (vR (some 190)), some (vI ((P : Nat) : Int)), some (vI ((G : Nat) : Int)), some (vI ((q : Nat) : Int)), y4, y5, y6, y7] [] (HS t m) (.inl none) (HS t m') ∧ RKM m' (((List.range' q c).map (fun x => (wt a0 aa n x, (x : Int)))).foldl oL l) ∧ m' 190 20 = sumR (5 ^ n) (wt a0 aa n) ∧ m' 190 21 = sumR (5 ^ n) (fun x => if x / 5 ^ (n - 1 - P) % 5 = G then wt a0 aa n x else 0) ∧ FRz m m' := by
  intro c
  induction c with
  | zero =>
    intro q l m y4 y5 y6 y7 hq hn hA hr hs hb h20 h21
    have h5n := p5 n hn5
    have eq : q = 5 ^ n := by omega
    rw [eq] at h20 h21
    refine ⟨m, ?_, hr, h20, h21, fun _ _ _ _ _ => rfl⟩
    refine ev_go (pc' := 23) (ls' := [some (vR (some 190)), some (vI ((P : Nat) : Int)), some (vI ((G : Nat) : Int)), some (vI ((q : Nat) : Int)), y4, y5, y6, y7]) (st' := [vR (some 190), vI ((q : Nat) : Int)]) (h1 := HS t m) 2 (by rfl) ?_
    refine ev_call rfl rfl (Nat.le_of_ble_eq_true rfl) (m_paths hn hn5) ⟨Nat.le_refl _, Nat.le_refl _⟩ ?_
    show Ev (PP L xs) _ 113 26 [some (vR (some 190)), some (vI ((P : Nat) : Int)), some (vI ((G : Nat) : Int)), some (vI ((q : Nat) : Int)), y4, y5, y6, y7] [vI ((5 ^ n : Nat) : Int), vI ((q : Nat) : Int)] (HS t m) _ _
    refine ev_ic3 rfl (inI_of (by omega) (by omega)) (inI_of (by omega) (by omega)) (fun c26 => ?_) (fun c26 => absurd c26 (by omega))
    exact ev_retE rfl rfl (by first | rfl | (simp [*]; done) | (split <;> first | rfl | (exfalso; omega))) (by first | rfl | (simp [*]; done) | (split <;> first | rfl | (exfalso; omega)))
  | succ c IH =>
    intro q l m y4 y5 y6 y7 hq hn hA hr hs hb h20 h21
    have h5n := p5 n hn5
    have hwq := m_wop (L := L) (xs := xs) (t := t) (d := d + 1) (m := m) (q := q) (by omega) hn hn5 hA
    have hwb := wt_bd5 hB hn5 q
    have hgl : ∀ k, k < l.length → 0 ≤ (gl l k).1 ∧ (gl l k).1 ≤ 992436543 ∧ (gl l k).2 < (q : Int) := fun k hk => hb _ (gl_mem hk)
    have hT : (q / 5 ^ (n - 1 - P) % 5 : Nat) < 5 := Nat.mod_lt _ (by decide)
    have h20' : sumR (q + 1) (wt a0 aa n) = sumR q (wt a0 aa n) + wt a0 aa n q := rfl
    have h21' : sumR (q + 1) (fun x => if x / 5 ^ (n - 1 - P) % 5 = G then wt a0 aa n x else 0) = sumR q (fun x => if x / 5 ^ (n - 1 - P) % 5 = G then wt a0 aa n x else 0) + (if q / 5 ^ (n - 1 - P) % 5 = G then wt a0 aa n q else 0) := rfl
    rw [List.range'_succ, List.map_cons, List.foldl_cons]
    generalize sumR q (wt a0 aa n) = s at *
    generalize sumR q (fun x => if x / 5 ^ (n - 1 - P) % 5 = G then wt a0 aa n x else 0) = p at *
    obtain ⟨e, he⟩ : ∃ e, e = (if q / 5 ^ (n - 1 - P) % 5 = G then wt a0 aa n q else 0) := ⟨_, rfl⟩
    rw [← he] at h21'
    have hF0 : ∀ b k, (b ≠ 190 ∨ (k ≠ 20 ∧ k ≠ 21)) → (up (up m 190 20 (s + wt a0 aa n q)) 190 21 (p + e)) b k = m b k := fun b k h => by rw [up_ne _ _ (by omega), up_ne _ _ (by omega)]
    have hr0 : RKM (up (up m 190 20 (s + wt a0 aa n q)) 190 21 (p + e)) l := RKM_fr (hF0 190 19 (by omega)) (fun b k h => hF0 b k (by omega)) hr
    obtain ⟨r, r1, r2, r3, rK⟩ := ml_at (L := L) (xs := xs) (t := t) (d := d + 3) (P := P) (G := G) (q := q) (w := wt a0 aa n q) (z := y7) hr0 (inJ_of (by omega) (by omega)) (fun k hk => inJ_of (by have := hgl k hk; omega) (by have := hgl k hk; omega)) l.length (Nat.le_refl _)
    have hb1 : ∀ k, k < r → bet (wt a0 aa n q, (q : Int)) (gl l k) = false := fun k hk => by
      have h3 := r3 (by omega)
      have g1 := hgl k (by omega)
      have h4 : (gl l (r - 1)).1 ≤ (gl l k).1 := by
        by_cases c1 : k = r - 1
        · rw [c1]; exact Int.le_refl _
        · have h5 := Srt_gl hs (show k < r - 1 by omega) (by omega)
          rw [bet_not] at h5; omega
      rw [bet_not]; show ¬ ((gl l k).1 < wt a0 aa n q ∨ (wt a0 aa n q = (gl l k).1 ∧ (q : Int) < (gl l k).2)); omega
    have hb2 : r < l.length → bet (wt a0 aa n q, (q : Int)) (gl l r) = true := fun hk => by
      rw [bet_iff]; exact Or.inl (r2 r (Nat.le_refl _) hk)
    obtain ⟨m2, z2, hR2, hF2, tK⟩ := ml_tail (L := L) (xs := xs) (t := t) (d := d + 3) (P := P) (G := G) (z := y7) hr0 (inJ_of (by omega) (by omega)) r1 hb1 hb2
    have hFz : FRz m m2 := fun b k h1 h2 h3 => (hF2 b k (by omega) h2 h3).trans (hF0 b k (by omega))
    obtain ⟨m3, hE3, hR3, e20, e21, hF3⟩ := IH (q + 1) (oL l (wt a0 aa n q, (q : Int))) m2 (some (vJ (wt a0 aa n q))) none (some (vI (r : Int))) z2 (by omega) (by rw [hFz 190 13 (by omega) (by decide) (by decide)]; exact hn) (HA_fr (fun b k h1 h2 => hFz b k (by omega) (by omega) (by omega)) hA) hR2 (Srt_oL hs _) (fun x hx => by
      rcases oL_mem hx with rfl | hx
      · exact ⟨hwb.1, hwb.2, by show (q : Int) < ((q + 1 : Nat) : Int); omega⟩
      · have := hb x hx; omega) (by rw [hF2 190 20 (by omega) (by decide) (by decide), up_ne2 _ _ (by decide), up_eq, h20']) (by rw [hF2 190 21 (by omega) (by decide) (by decide), up_eq, h21'])
    refine ⟨m3, ?_, hR3, e20, e21, FRz_trans hFz hF3⟩
    by_cases c0 : q / 5 ^ (n - 1 - P) % 5 = G
    · rw [if_pos c0] at he
      subst he
      refine ev_go (pc' := 23) (ls' := [some (vR (some 190)), some (vI ((P : Nat) : Int)), some (vI ((G : Nat) : Int)), some (vI ((q : Nat) : Int)), y4, y5, y6, y7]) (st' := [vR (some 190), vI ((q : Nat) : Int)]) (h1 := HS t m) 2 (by rfl) ?_
      refine ev_call rfl rfl (Nat.le_of_ble_eq_true rfl) (m_paths hn hn5) ⟨Nat.le_refl _, Nat.le_refl _⟩ ?_
      show Ev (PP L xs) _ 113 26 [some (vR (some 190)), some (vI ((P : Nat) : Int)), some (vI ((G : Nat) : Int)), some (vI ((q : Nat) : Int)), y4, y5, y6, y7] [vI ((5 ^ n : Nat) : Int), vI ((q : Nat) : Int)] (HS t m) _ _
      refine ev_ic3 rfl (inI_of (by omega) (by omega)) (inI_of (by omega) (by omega)) (fun c26 => absurd c26 (by omega)) (fun c26 => ?_)
      refine ev_go (pc' := 31) (ls' := [some (vR (some 190)), some (vI ((P : Nat) : Int)), some (vI ((G : Nat) : Int)), some (vI ((q : Nat) : Int)), y4, y5, y6, y7]) (st' := [vI ((q : Nat) : Int), vR (some 190)]) (h1 := HS t m) 2 (by rfl) ?_
      refine ev_call rfl rfl (Nat.le_of_ble_eq_true rfl) hwq ⟨Nat.le_refl _, Nat.le_refl _⟩ ?_
      show Ev (PP L xs) _ 113 34 [some (vR (some 190)), some (vI ((P : Nat) : Int)), some (vI ((G : Nat) : Int)), some (vI ((q : Nat) : Int)), y4, y5, y6, y7] [vJ (wt a0 aa n q)] (HS t m) _ _
      refine ev_go (pc' := 38) (ls' := [some (vR (some 190)), some (vI ((P : Nat) : Int)), some (vI ((G : Nat) : Int)), some (vI ((q : Nat) : Int)), some (vJ (wt a0 aa n q)), none, y6, y7]) (st' := [vR (some 190), vR (some 190)]) (h1 := HS t m) 3 (by rfl) ?_
      refine ev_getJv (v := s) rfl rfl (h20) ?_
      refine ev_go (pc' := 44) (ls' := [some (vR (some 190)), some (vI ((P : Nat) : Int)), some (vI ((G : Nat) : Int)), some (vI ((q : Nat) : Int)), some (vJ (wt a0 aa n q)), none, y6, y7]) (st' := [vJ (s + (wt a0 aa n q)), vR (some 190)]) (h1 := HS t m) 2 (by rfl) ?_
      refine ev_putJ rfl rfl ?_
      refine ev_go (pc' := 49) (ls' := [some (vR (some 190)), some (vI ((P : Nat) : Int)), some (vI ((G : Nat) : Int)), some (vI ((q : Nat) : Int)), some (vJ (wt a0 aa n q)), none, y6, y7]) (st' := [vR (some 190), vR (some 190)]) (h1 := HS t (up m 190 20 (s + (wt a0 aa n q)))) 2 (by rfl) ?_
      refine ev_getJv (v := p) rfl rfl ((up_ne2 _ _ (by decide)).trans (h21)) ?_
      refine ev_go (pc' := 55) (ls' := [some (vR (some 190)), some (vI ((P : Nat) : Int)), some (vI ((G : Nat) : Int)), some (vI ((q : Nat) : Int)), some (vJ (wt a0 aa n q)), none, y6, y7]) (st' := [vI ((P : Nat) : Int), vI ((q : Nat) : Int), vR (some 190), vJ p, vR (some 190)]) (h1 := HS t (up m 190 20 (s + (wt a0 aa n q)))) 3 (by rfl) ?_
      have htg := m_tagAt (L := L) (xs := xs) (t := t) (d := d + 2) (m := up m 190 20 (s + (wt a0 aa n q))) (n := n) (p := P) (r := q) (by omega) (by rw [up_ne2 _ _ (by decide)]; exact hn) hn5 hP
      refine ev_call rfl rfl (Nat.le_of_ble_eq_true rfl) htg ⟨Nat.le_refl _, Nat.le_refl _⟩ ?_
      show Ev (PP L xs) _ 113 58 [some (vR (some 190)), some (vI ((P : Nat) : Int)), some (vI ((G : Nat) : Int)), some (vI ((q : Nat) : Int)), some (vJ (wt a0 aa n q)), none, y6, y7] [vI ((q / 5 ^ (n - 1 - P) % 5 : Nat) : Int), vJ p, vR (some 190)] (HS t (up m 190 20 (s + (wt a0 aa n q)))) _ _
      refine ev_go (pc' := 59) (ls' := [some (vR (some 190)), some (vI ((P : Nat) : Int)), some (vI ((G : Nat) : Int)), some (vI ((q : Nat) : Int)), some (vJ (wt a0 aa n q)), none, y6, y7]) (st' := [vI ((G : Nat) : Int), vI ((q / 5 ^ (n - 1 - P) % 5 : Nat) : Int), vJ p, vR (some 190)]) (h1 := HS t (up m 190 20 (s + (wt a0 aa n q)))) 1 (by rfl) ?_
      refine ev_ic1 rfl (inI_of (by omega) (by omega)) (inI_of (by omega) (by omega)) (fun c59 => absurd c59 (by omega)) (fun c59 => ?_)
      refine ev_go (pc' := 69) (ls' := [some (vR (some 190)), some (vI ((P : Nat) : Int)), some (vI ((G : Nat) : Int)), some (vI ((q : Nat) : Int)), some (vJ (wt a0 aa n q)), none, y6, y7]) (st' := [vJ (p + (wt a0 aa n q)), vR (some 190)]) (h1 := HS t (up m 190 20 (s + (wt a0 aa n q)))) 3 (by rfl) ?_
      refine ev_putJ rfl rfl ?_
      refine ev_go (pc' := 73) (ls' := [some (vR (some 190)), some (vI ((P : Nat) : Int)), some (vI ((G : Nat) : Int)), some (vI ((q : Nat) : Int)), some (vJ (wt a0 aa n q)), none, y6, y7]) (st' := [vR (some 190)]) (h1 := HS t (up (up m 190 20 (s + (wt a0 aa n q))) 190 21 (p + (wt a0 aa n q)))) 1 (by rfl) ?_
      refine ev_getIv (v := ((l.length : Nat) : Int)) rfl rfl ((up_ne2 _ _ (by decide)).trans ((up_ne2 _ _ (by decide)).trans (hr.1))) ?_
      refine ev_go (pc' := 78) (ls' := [some (vR (some 190)), some (vI ((P : Nat) : Int)), some (vI ((G : Nat) : Int)), some (vI ((q : Nat) : Int)), some (vJ (wt a0 aa n q)), none, some (vI ((l.length : Nat) : Int)), y7]) (st' := []) (h1 := HS t (up (up m 190 20 (s + (wt a0 aa n q))) 190 21 (p + (wt a0 aa n q)))) 1 (by rfl) ?_
      refine rK _ _ ?_
      refine tK _ _ ?_
      refine ev_go (pc' := 21) (ls' := [some (vR (some 190)), some (vI ((P : Nat) : Int)), some (vI ((G : Nat) : Int)), some (vI ((q + 1 : Nat) : Int)), some (vJ (wt a0 aa n q)), none, some (vI ((r : Nat) : Int)), z2]) (st' := []) (h1 := HS t m2) 2 (by rfl) ?_
      exact hE3
    · rw [if_neg c0] at he
      subst he
      refine ev_go (pc' := 23) (ls' := [some (vR (some 190)), some (vI ((P : Nat) : Int)), some (vI ((G : Nat) : Int)), some (vI ((q : Nat) : Int)), y4, y5, y6, y7]) (st' := [vR (some 190), vI ((q : Nat) : Int)]) (h1 := HS t m) 2 (by rfl) ?_
      refine ev_call rfl rfl (Nat.le_of_ble_eq_true rfl) (m_paths hn hn5) ⟨Nat.le_refl _, Nat.le_refl _⟩ ?_
      show Ev (PP L xs) _ 113 26 [some (vR (some 190)), some (vI ((P : Nat) : Int)), some (vI ((G : Nat) : Int)), some (vI ((q : Nat) : Int)), y4, y5, y6, y7] [vI ((5 ^ n : Nat) : Int), vI ((q : Nat) : Int)] (HS t m) _ _
      refine ev_ic3 rfl (inI_of (by omega) (by omega)) (inI_of (by omega) (by omega)) (fun c26 => absurd c26 (by omega)) (fun c26 => ?_)
      refine ev_go (pc' := 31) (ls' := [some (vR (some 190)), some (vI ((P : Nat) : Int)), some (vI ((G : Nat) : Int)), some (vI ((q : Nat) : Int)), y4, y5, y6, y7]) (st' := [vI ((q : Nat) : Int), vR (some 190)]) (h1 := HS t m) 2 (by rfl) ?_
      refine ev_call rfl rfl (Nat.le_of_ble_eq_true rfl) hwq ⟨Nat.le_refl _, Nat.le_refl _⟩ ?_
      show Ev (PP L xs) _ 113 34 [some (vR (some 190)), some (vI ((P : Nat) : Int)), some (vI ((G : Nat) : Int)), some (vI ((q : Nat) : Int)), y4, y5, y6, y7] [vJ (wt a0 aa n q)] (HS t m) _ _
      refine ev_go (pc' := 38) (ls' := [some (vR (some 190)), some (vI ((P : Nat) : Int)), some (vI ((G : Nat) : Int)), some (vI ((q : Nat) : Int)), some (vJ (wt a0 aa n q)), none, y6, y7]) (st' := [vR (some 190), vR (some 190)]) (h1 := HS t m) 3 (by rfl) ?_
      refine ev_getJv (v := s) rfl rfl (h20) ?_
      refine ev_go (pc' := 44) (ls' := [some (vR (some 190)), some (vI ((P : Nat) : Int)), some (vI ((G : Nat) : Int)), some (vI ((q : Nat) : Int)), some (vJ (wt a0 aa n q)), none, y6, y7]) (st' := [vJ (s + (wt a0 aa n q)), vR (some 190)]) (h1 := HS t m) 2 (by rfl) ?_
      refine ev_putJ rfl rfl ?_
      refine ev_go (pc' := 49) (ls' := [some (vR (some 190)), some (vI ((P : Nat) : Int)), some (vI ((G : Nat) : Int)), some (vI ((q : Nat) : Int)), some (vJ (wt a0 aa n q)), none, y6, y7]) (st' := [vR (some 190), vR (some 190)]) (h1 := HS t (up m 190 20 (s + (wt a0 aa n q)))) 2 (by rfl) ?_
      refine ev_getJv (v := p) rfl rfl ((up_ne2 _ _ (by decide)).trans (h21)) ?_
      refine ev_go (pc' := 55) (ls' := [some (vR (some 190)), some (vI ((P : Nat) : Int)), some (vI ((G : Nat) : Int)), some (vI ((q : Nat) : Int)), some (vJ (wt a0 aa n q)), none, y6, y7]) (st' := [vI ((P : Nat) : Int), vI ((q : Nat) : Int), vR (some 190), vJ p, vR (some 190)]) (h1 := HS t (up m 190 20 (s + (wt a0 aa n q)))) 3 (by rfl) ?_
      have htg := m_tagAt (L := L) (xs := xs) (t := t) (d := d + 2) (m := up m 190 20 (s + (wt a0 aa n q))) (n := n) (p := P) (r := q) (by omega) (by rw [up_ne2 _ _ (by decide)]; exact hn) hn5 hP
      refine ev_call rfl rfl (Nat.le_of_ble_eq_true rfl) htg ⟨Nat.le_refl _, Nat.le_refl _⟩ ?_
      show Ev (PP L xs) _ 113 58 [some (vR (some 190)), some (vI ((P : Nat) : Int)), some (vI ((G : Nat) : Int)), some (vI ((q : Nat) : Int)), some (vJ (wt a0 aa n q)), none, y6, y7] [vI ((q / 5 ^ (n - 1 - P) % 5 : Nat) : Int), vJ p, vR (some 190)] (HS t (up m 190 20 (s + (wt a0 aa n q)))) _ _
      refine ev_go (pc' := 59) (ls' := [some (vR (some 190)), some (vI ((P : Nat) : Int)), some (vI ((G : Nat) : Int)), some (vI ((q : Nat) : Int)), some (vJ (wt a0 aa n q)), none, y6, y7]) (st' := [vI ((G : Nat) : Int), vI ((q / 5 ^ (n - 1 - P) % 5 : Nat) : Int), vJ p, vR (some 190)]) (h1 := HS t (up m 190 20 (s + (wt a0 aa n q)))) 1 (by rfl) ?_
      refine ev_ic1 rfl (inI_of (by omega) (by omega)) (inI_of (by omega) (by omega)) (fun c59 => ?_) (fun c59 => absurd c59 (by omega))
      refine ev_go (pc' := 69) (ls' := [some (vR (some 190)), some (vI ((P : Nat) : Int)), some (vI ((G : Nat) : Int)), some (vI ((q : Nat) : Int)), some (vJ (wt a0 aa n q)), none, y6, y7]) (st' := [vJ (p + 0), vR (some 190)]) (h1 := HS t (up m 190 20 (s + (wt a0 aa n q)))) 2 (by rfl) ?_
      refine ev_putJ rfl rfl ?_
      refine ev_go (pc' := 73) (ls' := [some (vR (some 190)), some (vI ((P : Nat) : Int)), some (vI ((G : Nat) : Int)), some (vI ((q : Nat) : Int)), some (vJ (wt a0 aa n q)), none, y6, y7]) (st' := [vR (some 190)]) (h1 := HS t (up (up m 190 20 (s + (wt a0 aa n q))) 190 21 (p + 0))) 1 (by rfl) ?_
      refine ev_getIv (v := ((l.length : Nat) : Int)) rfl rfl ((up_ne2 _ _ (by decide)).trans ((up_ne2 _ _ (by decide)).trans (hr.1))) ?_
      refine ev_go (pc' := 78) (ls' := [some (vR (some 190)), some (vI ((P : Nat) : Int)), some (vI ((G : Nat) : Int)), some (vI ((q : Nat) : Int)), some (vJ (wt a0 aa n q)), none, some (vI ((l.length : Nat) : Int)), y7]) (st' := []) (h1 := HS t (up (up m 190 20 (s + (wt a0 aa n q))) 190 21 (p + 0))) 1 (by rfl) ?_
      refine rK _ _ ?_
      refine tK _ _ ?_
      refine ev_go (pc' := 21) (ls' := [some (vR (some 190)), some (vI ((P : Nat) : Int)), some (vI ((G : Nat) : Int)), some (vI ((q + 1 : Nat) : Int)), some (vJ (wt a0 aa n q)), none, some (vI ((r : Nat) : Int)), z2]) (st' := []) (h1 := HS t m2) 2 (by rfl) ?_
      exact hE3
