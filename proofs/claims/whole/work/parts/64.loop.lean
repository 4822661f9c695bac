/-! ===== the law's loop and its start ===== -/
def tgS : List Nat := [116, 174, 230, 274, 365, 409, 422, 490, 546, 614, 682, 750, 805, 849, 917, 985]
theorem lc_all {L : Nat} {xs : Nat → Int32} {i : Nat} (hi : i + 3 ≤ L) : ∀ j, j < 16 → LCP L xs i (tgS.getD j 0)
  | 0, _ => lc_letter hi
  | 1, _ => lc_tag hi
  | 2, _ => lc_add hi
  | 3, _ => lc_text hi
  | 4, _ => lc_word hi
  | 5, _ => lc_clear
  | 6, _ => lc_lock hi
  | 7, _ => lc_weight hi
  | 8, _ => lc_step hi
  | 9, _ => lc_path hi
  | 10, _ => lc_pathAnew hi
  | 11, _ => lc_product hi
  | 12, _ => lc_cost hi
  | 13, _ => lc_share hi
  | 14, _ => lc_shareAnew hi
  | 15, _ => lc_texts
  | j + 16, h => absurd h (by omega)
set_option maxRecDepth 10000 in
theorem law_loop {L : Nat} {xs : Nat → Int32} (hL : L ≤ 1536) : ∀ (c i : Nat) (t : Bool × Nat × Nat) (m : mMM) (w : Int) (k : Nat) (C : List Tx) (D : List (Int × Nat)) (S : List (Int × Int)) (z5 z6 z7 : Option mMV), L ≤ i + 3 * c → i ≤ L → RA m w k C D S → ∃ t' m', Ev (PP L xs) 11 141 23 (ll i z5 z6 z7) [] (HS t m) (.inl (some (vI 1))) (HS t' m') ∧ t'.2.1 ≤ t.2.1 + c ∧ t'.2.2 ≤ t.2.2 + 6 * c := by
  intro c
  induction c with
  | zero =>
    intro i t m w k C D S z5 z6 z7 hi hiL hA
    refine ⟨t, m, ?_, Nat.le_refl _, Nat.le_refl _⟩
    refine ev_go (pc' := 29) (ls' := ll i z5 z6 z7) (st' := [vI ((L : Int) - 3), vI ((i : Nat) : Int)]) (h1 := HS t m) 5 (by rfl) ?_
    refine ev_ic4 rfl (inI_of (by omega) (by omega)) (inI_of (by omega) (by omega)) (fun c29 => ?_) (fun c29 => absurd c29 (by omega))
    refine ev_go (pc' := 1005) (ls' := ll i z5 z6 z7) (st' := [vI 1]) (h1 := HS t m) 1 (by rfl) ?_
    exact ev_zret rfl (Or.inr rfl) rfl
  | succ c IH =>
    intro i t m w k C D S z5 z6 z7 hi hiL hA
    by_cases h3 : i + 3 ≤ L
    · obtain ⟨j, hj⟩ := Int.eq_ofNat_of_zero_le (show 0 ≤ (xs i).toInt % 16 by omega)
      have hj16 : j < 16 := by omega
      obtain ⟨t2, m2, w2, k2, C2, D2, S2, y5, y6, y7, hA2, hc, hs, hK⟩ := lc_all (xs := xs) h3 j hj16 t m w k C D S z5 z6 z7 hA
      obtain ⟨t3, m3, hE3, hc3, hs3⟩ := IH (i + 3) t2 m2 w2 k2 C2 D2 S2 y5 y6 y7 (by omega) h3 hA2
      refine ⟨t3, m3, ?_, by omega, by omega⟩
      refine ev_go (pc' := 29) (ls' := ll i z5 z6 z7) (st' := [vI ((L : Int) - 3), vI ((i : Nat) : Int)]) (h1 := HS t m) 5 (by rfl) ?_
      refine ev_ic4 rfl (inI_of (by omega) (by omega)) (inI_of (by omega) (by omega)) (fun c29 => absurd c29 (by omega)) (fun c29 => ?_)
      refine ev_go (pc' := 35) (ls' := ll i z5 z6 z7) (st' := [vI ((i : Nat) : Int), vR (some 0)]) (h1 := HS t m) 2 (by rfl) ?_
      refine ev_sld (k := i) rfl rfl (by omega) ?_
      refine ev_go (pc' := 38) (ls' := ll i z5 z6 z7) (st' := [vI 15, vI (xs i).toInt]) (h1 := HS t m) 1 (by rfl) ?_
      refine ev_iand15 rfl (xs_in _) ?_
      refine ev_tsw (tg := tgS) (k := j) (p := tgS.getD j 0) rfl hj hj16 ?_ ?_
      · have hl : j < tgS.length := hj16
        rw [List.getD_eq_getElem?_getD, List.getElem?_eq_getElem hl]; rfl
      refine hK _ _ ?_
      refine ev_go (pc' := 23) (ls' := ll (i + 3) y5 y6 y7) (st' := []) (h1 := HS t2 m2) 2 (by rfl) ?_
      exact hE3
    · refine ⟨t, m, ?_, by omega, by omega⟩
      refine ev_go (pc' := 29) (ls' := ll i z5 z6 z7) (st' := [vI ((L : Int) - 3), vI ((i : Nat) : Int)]) (h1 := HS t m) 5 (by rfl) ?_
      refine ev_ic4 rfl (inI_of (by omega) (by omega)) (inI_of (by omega) (by omega)) (fun c29 => ?_) (fun c29 => absurd c29 (by omega))
      refine ev_go (pc' := 1005) (ls' := ll i z5 z6 z7) (st' := [vI 1]) (h1 := HS t m) 1 (by rfl) ?_
      exact ev_zret rfl (Or.inr rfl) rfl
def mI : mMM := up (fun _ _ => 0) 190 1 0
theorem mI_0 (b j : Nat) : mI b j = 0 := by
  unfold mI up; split
  · split <;> rfl
  · rfl
theorem RA_start : RA mI 0 0 [] [] [] := by
  have z := mI_0
  refine ⟨⟨⟨z _ _, z _ _⟩, ⟨⟨z _ _, Nat.zero_le _, fun i hi => absurd hi (Nat.not_lt_zero i)⟩, ⟨⟨z _ _, Nat.zero_le _, fun i hi => absurd hi (Nat.not_lt_zero i)⟩, z _ _⟩, fun i _ _ => ⟨z _ _, z _ _⟩, z _ _, fun h _ => z _ _, fun g _ h _ => z _ _⟩, ⟨z _ _, Nat.zero_le _, fun i hi => absurd hi (Nat.not_lt_zero i)⟩, fun p _ k _ => by rw [z]; decide⟩, ⟨⟨z _ _, z _ _⟩, ⟨z _ _, fun i hi => absurd hi (Nat.not_lt_zero i)⟩, ⟨z _ _, Nat.zero_le _, fun i hi => absurd hi (Nat.not_lt_zero i)⟩, ⟨z _ _, Nat.zero_le _, fun i hi => absurd hi (Nat.not_lt_zero i)⟩⟩, ⟨⟨Or.inl ⟨rfl, rfl⟩, Nat.zero_le _⟩, ⟨Nat.zero_le _, fun x hx => absurd hx List.not_mem_nil⟩, ⟨⟨Nat.zero_le _, fun x hx => absurd hx List.not_mem_nil⟩, fun x hx => absurd hx List.not_mem_nil⟩, fun x hx => absurd hx List.not_mem_nil, fun x hx => absurd hx List.not_mem_nil⟩⟩
set_option maxRecDepth 100000 in
theorem law_all {L : Nat} {xs : Nat → Int32} (hL : L ≤ 1536) : ∃ t' m', Ev (PP L xs) 11 141 0 (entL 8 [vR (some 0)]) [] h00 (.inl (some (vI 1))) (HS t' m') ∧ t'.2.1 ≤ 204 + 512 ∧ t'.2.2 ≤ 1609 + 6 * 512 := by
  obtain ⟨t2, m2, hE, hc, hs⟩ := law_loop (xs := xs) hL 512 0 (true, 204, 1609) mI 0 0 [] [] [] none none none (by omega) (Nat.zero_le _) RA_start
  refine ⟨t2, m2, ?_, hc, hs⟩
  refine ev_go (pc' := 4) (ls' := [some (vR (some 0)), none, none, none, none, none, none, none]) (st' := [vR (some 1), vR (some 1)]) (h1 := hq_0) 2 (by rfl) ?_
  refine ev_call rfl rfl (Nat.le_of_ble_eq_true rfl) ct_55 ⟨by decide +kernel, by decide +kernel⟩ ?_
  show Ev (PP L xs) 11 141 7 [some (vR (some 0)), none, none, none, none, none, none, none] [vR (some 1)] hq_207 _ _
  refine ev_go (pc' := 12) (ls' := [some (vR (some 0)), some (vR (some 1)), none, none, none, none, none, none]) (st' := [vR (some 190), vR (some 190)]) (h1 := hq_208) 3 (by rfl) ?_
  refine ev_call rfl rfl (Nat.le_of_ble_eq_true rfl) ct_56 ⟨by decide +kernel, by decide +kernel⟩ ?_
  show Ev (PP L xs) 11 141 15 [some (vR (some 0)), some (vR (some 1)), none, none, none, none, none, none] [vR (some 190)] hq_216 _ _
  refine ev_go (pc' := 23) (ls' := ll 0 none none none) (st' := []) (h1 := HS (true, 204, 1609) mI) 6 (by rfl) ?_
  exact hE
