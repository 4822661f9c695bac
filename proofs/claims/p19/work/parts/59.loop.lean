/-! ===== the law's turn, loop, start; the claim ===== -/
theorem ev_ishrZ {L : Nat} {xs : Nat → Int32} {d j pc nx : Nat} {ls : mLS} {st : mST} {t : Bool × Nat × Nat} {m : mMM} {o : Option mMV ⊕ Nat} {h' : mMH} {n : Nat} {x y : Int} (hf : lk (dC (PP L xs j)) pc = some (mo_ishr nx)) (hy : y = ((n : Nat) : Int)) (hx : inI x = true) (hn : n < 32) (kk : Ev (PP L xs) d j nx ls (vI (x / 2 ^ n) :: st) (HS t m) o h') : Ev (PP L xs) d j pc ls (vI y :: vI x :: st) (HS t m) o h' := by
  subst hy
  refine ev_ishr hf hx (by omega) (by omega) ?_
  rw [Int.toNat_natCast]; exact kk
theorem int_mod (x : Int) {M : Nat} (hM : 0 < M) : ∃ y : Nat, x % ((M : Nat) : Int) = ((y : Nat) : Int) ∧ y < M := by
  have h1 := Int.emod_nonneg x (show ((M : Nat) : Int) ≠ 0 by omega)
  have h2 := Int.emod_lt_of_pos x (show 0 < ((M : Nat) : Int) by omega)
  obtain ⟨y, hy⟩ := Int.eq_ofNat_of_zero_le h1
  exact ⟨y, hy, by omega⟩
set_option maxRecDepth 10000 in
theorem g_turn {L : Nat} {xs : Nat → Int32} {t : Bool × Nat × Nat} {m : mMM} {w : Int} {k : Nat} {C : List Tx} {D : List (Int × Nat)} {S : List (Int × Int)} {Q : Option mMV ⊕ Nat → mMH → Prop} {turns turn lo ty y d : Nat} {z14 z15 z16 z17 z18 z19 : Option mMV} (hI : IV m w k C D S) (hG : GA m S) (hy : y < 134217728) (hd : d < 32) (hlo : lo ≤ 14) (htu : turn < 220) (hTY : TY ty k) (K : KE L xs t turns turn Q) : Tg L xs 13 96 127 [some (vR (some 0)), some (vR (some 1)), some (vR (some 190)), some (vR (some 191)), some (vI ((S.length : Nat) : Int)), some (vI ((C.length : Nat) : Int)), some (vI ((D.length : Nat) : Int)), some (vI ((ty : Nat) : Int)), some (vI ((lo : Nat) : Int)), some (vI 1), some (vI ((turns : Nat) : Int)), some (vI ((turn : Nat) : Int)), some (vI ((y : Nat) : Int)), some (vI ((d : Nat) : Int)), z14, z15, z16, z17, z18, z19] [] (HS t m) Q := by
  refine g_typed hI hG hy hd hlo htu hTY (fun m' w' k' ty' z14 z15 hI2 hG2 hTY2 h24 => ?_)
  by_cases h27 : 27 ≤ d
  · exact g_look hI2 hG2 hy hd hlo htu h27 hTY2 K
  by_cases h24d : 24 ≤ d
  · exact g_lock hI2 hG2 hy hd hlo htu h24d (by omega) hTY2 K
  have e1 : ty' = 1 := h24 (by omega)
  subst e1
  rcases hTY2 with ⟨h, _⟩ | ⟨_, hk1, hk4⟩
  · exact absurd h (by decide)
  by_cases h14 : d < 14
  · exact g_tag hI2 hG2 hy hd hlo htu h14 hk1 hk4 K
  by_cases h18 : d < 18
  · exact g_add hI2 hG2 hy hd hlo htu (by omega) h18 hk1 hk4 K
  by_cases h22 : d < 22
  · exact g_word hI2 hG2 hy hd hlo htu (by omega) h22 hk1 hk4 K
  · exact g_text hI2 hG2 hy hd hlo htu (by omega) (by omega) hk1 hk4 K
set_option maxRecDepth 10000 in
theorem law_loop {L : Nat} {xs : Nat → Int32} {turns : Nat} (hL : L ≤ 260) (htn : turns ≤ 218) : ∀ (c turn : Nat) (t : Bool × Nat × Nat) (m : mMM) (w : Int) (k : Nat) (C : List Tx) (D : List (Int × Nat)) (S : List (Int × Int)) (ty lo : Nat) (z12 z13 z14 z15 z16 z17 z18 z19 : Option mMV), turn + c = turns → IV m w k C D S → GA m S → TY ty k → lo ≤ 14 → t.2.1 + 3 * c ≤ 2000 → t.2.2 + 18 * c ≤ 20000 → Tg L xs 13 96 70 [some (vR (some 0)), some (vR (some 1)), some (vR (some 190)), some (vR (some 191)), some (vI ((S.length : Nat) : Int)), some (vI ((C.length : Nat) : Int)), some (vI ((D.length : Nat) : Int)), some (vI ((ty : Nat) : Int)), some (vI ((lo : Nat) : Int)), some (vI 1), some (vI ((turns : Nat) : Int)), some (vI ((turn : Nat) : Int)), z12, z13, z14, z15, z16, z17, z18, z19] [] (HS t m) (fun o h' => o = .inl (some (vI 1)) ∧ mC h' ≤ 600172 ∧ mSl h' ≤ 7300668) := by
  intro c
  induction c with
  | zero =>
    intro turn t m w k C D S ty lo z12 z13 z14 z15 z16 z17 z18 z19 hc hI hG hTY hlo hc1 hc2
    have htt : turn = turns := by omega
    subst htt
    refine tg (fun _ _ k => ev_go (pc' := 74) (ls' := [some (vR (some 0)), some (vR (some 1)), some (vR (some 190)), some (vR (some 191)), some (vI ((S.length : Nat) : Int)), some (vI ((C.length : Nat) : Int)), some (vI ((D.length : Nat) : Int)), some (vI ((ty : Nat) : Int)), some (vI ((lo : Nat) : Int)), some (vI 1), some (vI ((turn : Nat) : Int)), some (vI ((turn : Nat) : Int)), z12, z13, z14, z15, z16, z17, z18, z19]) (st' := [vI ((turn : Nat) : Int), vI ((turn : Nat) : Int)]) (h1 := HS t m) 2 (by rfl) k) ?_
    refine tg (fun _ _ k => ev_ic3 rfl (inI_of (by omega) (by omega)) (inI_of (by omega) (by omega)) (fun c74 => k) (fun c74 => absurd c74 (by omega))) ?_
    refine tg (fun _ _ k => ev_go (pc' := 1279) (ls' := [some (vR (some 0)), some (vR (some 1)), some (vR (some 190)), some (vR (some 191)), some (vI ((S.length : Nat) : Int)), some (vI ((C.length : Nat) : Int)), some (vI ((D.length : Nat) : Int)), some (vI ((ty : Nat) : Int)), some (vI ((lo : Nat) : Int)), some (vI 1), some (vI ((turn : Nat) : Int)), some (vI ((turn : Nat) : Int)), z12, z13, z14, z15, z16, z17, z18, z19]) (st' := [vI 1]) (h1 := HS t m) 1 (by rfl) k) ?_
    exact ⟨_, _, ev_zret rfl (Or.inr rfl) rfl, rfl, by show t.2.1 ≤ 600172; omega, by show t.2.2 ≤ 7300668; omega⟩
  | succ c IH =>
    intro turn t m w k C D S ty lo z12 z13 z14 z15 z16 z17 z18 z19 hc hI hG hTY hlo hc1 hc2
    have K : KE L xs t turns turn (fun o h' => o = .inl (some (vI 1)) ∧ mC h' ≤ 600172 ∧ mSl h' ≤ 7300668) := by
      intro t' m' w' k' C' D' S' nP nT nD ty' lo' y' d' y14 y15 y16 y17 y18 y19 hI2 hG2 e1 e2 e3 hTY2 hlo2 hb1 hb2
      subst e1; subst e2; subst e3
      refine tg (fun _ _ k => ev_go (pc' := 70) (ls' := [some (vR (some 0)), some (vR (some 1)), some (vR (some 190)), some (vR (some 191)), some (vI ((S'.length : Nat) : Int)), some (vI ((C'.length : Nat) : Int)), some (vI ((D'.length : Nat) : Int)), some (vI ((ty' : Nat) : Int)), some (vI ((lo' : Nat) : Int)), some (vI 1), some (vI ((turns : Nat) : Int)), some (vI ((turn + 1 : Nat) : Int)), some (vI y'), some (vI d'), y14, y15, y16, y17, y18, y19]) (st' := []) (h1 := HS t' m') 2 (by rfl) k) ?_
      exact IH (turn + 1) t' m' w' k' C' D' S' ty' lo' _ _ _ _ _ _ _ _ (by omega) hI2 hG2 hTY2 hlo2 (by omega) (by omega)
    refine tg (fun _ _ k => ev_go (pc' := 74) (ls' := [some (vR (some 0)), some (vR (some 1)), some (vR (some 190)), some (vR (some 191)), some (vI ((S.length : Nat) : Int)), some (vI ((C.length : Nat) : Int)), some (vI ((D.length : Nat) : Int)), some (vI ((ty : Nat) : Int)), some (vI ((lo : Nat) : Int)), some (vI 1), some (vI ((turns : Nat) : Int)), some (vI ((turn : Nat) : Int)), z12, z13, z14, z15, z16, z17, z18, z19]) (st' := [vI ((turns : Nat) : Int), vI ((turn : Nat) : Int)]) (h1 := HS t m) 2 (by rfl) k) ?_
    refine tg (fun _ _ k => ev_ic3 rfl (inI_of (by omega) (by omega)) (inI_of (by omega) (by omega)) (fun c74 => absurd c74 (by omega)) (fun c74 => k)) ?_
    refine tg (fun _ _ k => ev_go (pc' := 79) (ls' := [some (vR (some 0)), some (vR (some 1)), some (vR (some 190)), some (vR (some 191)), some (vI ((S.length : Nat) : Int)), some (vI ((C.length : Nat) : Int)), some (vI ((D.length : Nat) : Int)), some (vI ((ty : Nat) : Int)), some (vI ((lo : Nat) : Int)), some (vI 1), some (vI ((turns : Nat) : Int)), some (vI ((turn : Nat) : Int)), z12, z13, z14, z15, z16, z17, z18, z19]) (st' := [vI 1]) (h1 := HS t m) 1 (by rfl) k) ?_
    refine tg (fun _ _ k => ev_if0 rfl rfl (fun c79 => absurd c79 (by decide)) (fun c79 => k)) ?_
    refine tg (fun _ _ k => ev_go (pc' := 85) (ls' := [some (vR (some 0)), some (vR (some 1)), some (vR (some 190)), some (vR (some 191)), some (vI ((S.length : Nat) : Int)), some (vI ((C.length : Nat) : Int)), some (vI ((D.length : Nat) : Int)), some (vI ((ty : Nat) : Int)), some (vI ((lo : Nat) : Int)), some (vI 1), some (vI ((turns : Nat) : Int)), some (vI ((turn : Nat) : Int)), z12, z13, z14, z15, z16, z17, z18, z19]) (st' := [vI ((turn : Nat) : Int), vR (some 0)]) (h1 := HS t m) 2 (by rfl) k) ?_
    obtain ⟨v, hv, hE⟩ := c_draw (L := L) (xs := xs) hL (d := 12) (t := t) (m := m) (k := turn) (by omega)
    refine tg (fun _ _ k => ev_call rfl rfl (Nat.le_of_ble_eq_true rfl) hE ⟨Nat.le_refl _, Nat.le_refl _⟩ k) ?_
    show Tg L xs _ 96 88 [some (vR (some 0)), some (vR (some 1)), some (vR (some 190)), some (vR (some 191)), some (vI ((S.length : Nat) : Int)), some (vI ((C.length : Nat) : Int)), some (vI ((D.length : Nat) : Int)), some (vI ((ty : Nat) : Int)), some (vI ((lo : Nat) : Int)), some (vI 1), some (vI ((turns : Nat) : Int)), some (vI ((turn : Nat) : Int)), z12, z13, z14, z15, z16, z17, z18, z19] [vI v] (HS t m) _
    refine tg (fun _ _ k => ev_go (pc' := 89) (ls' := [some (vR (some 0)), some (vR (some 1)), some (vR (some 190)), some (vR (some 191)), some (vI ((S.length : Nat) : Int)), some (vI ((C.length : Nat) : Int)), some (vI ((D.length : Nat) : Int)), some (vI ((ty : Nat) : Int)), some (vI ((lo : Nat) : Int)), some (vI 1), some (vI ((turns : Nat) : Int)), some (vI ((turn : Nat) : Int)), z12, z13, z14, z15, z16, z17, z18, z19]) (st' := [vI 5, vI v]) (h1 := HS t m) 1 (by rfl) k) ?_
    refine tg (fun _ _ k => ev_ishrZ (n := 5) rfl rfl (inI_of (by omega) (by omega)) (by omega) k) ?_
    refine tg (fun _ _ k => ev_go (pc' := 92) (ls' := [some (vR (some 0)), some (vR (some 1)), some (vR (some 190)), some (vR (some 191)), some (vI ((S.length : Nat) : Int)), some (vI ((C.length : Nat) : Int)), some (vI ((D.length : Nat) : Int)), some (vI ((ty : Nat) : Int)), some (vI ((lo : Nat) : Int)), some (vI 1), some (vI ((turns : Nat) : Int)), some (vI ((turn : Nat) : Int)), z12, z13, z14, z15, z16, z17, z18, z19]) (st' := [vI 134217727, vI (v / 2 ^ 5)]) (h1 := HS t m) 1 (by rfl) k) ?_
    refine tg (fun _ _ k => ev_iandm rfl k) ?_
    obtain ⟨y, hyd, hy⟩ : ∃ y : Nat, v / 2 ^ 5 % 134217728 = ((y : Nat) : Int) ∧ y < 134217728 := int_mod _ (by decide)
    rw [hyd]
    refine tg (fun _ _ k => ev_go (pc' := 98) (ls' := [some (vR (some 0)), some (vR (some 1)), some (vR (some 190)), some (vR (some 191)), some (vI ((S.length : Nat) : Int)), some (vI ((C.length : Nat) : Int)), some (vI ((D.length : Nat) : Int)), some (vI ((ty : Nat) : Int)), some (vI ((lo : Nat) : Int)), some (vI 1), some (vI ((turns : Nat) : Int)), some (vI ((turn : Nat) : Int)), some (vI ((y : Nat) : Int)), z13, z14, z15, z16, z17, z18, z19]) (st' := [vI 3, vI ((turn : Nat) : Int)]) (h1 := HS t m) 3 (by rfl) k) ?_
    by_cases c98 : 3 ≤ ((turn : Nat) : Int)
    · refine tg (fun _ _ k => ev_ic3 rfl (inI_of (by omega) (by omega)) rfl (fun _ => k) (fun z => absurd c98 (by omega))) ?_
      refine tg (fun _ _ k => ev_go (pc' := 108) (ls' := [some (vR (some 0)), some (vR (some 1)), some (vR (some 190)), some (vR (some 191)), some (vI ((S.length : Nat) : Int)), some (vI ((C.length : Nat) : Int)), some (vI ((D.length : Nat) : Int)), some (vI ((ty : Nat) : Int)), some (vI ((lo : Nat) : Int)), some (vI 1), some (vI ((turns : Nat) : Int)), some (vI ((turn : Nat) : Int)), some (vI ((y : Nat) : Int)), z13, z14, z15, z16, z17, z18, z19]) (st' := [vI 5, vI ((turn : Nat) : Int)]) (h1 := HS t m) 2 (by rfl) k) ?_
      by_cases c108 : 5 ≤ ((turn : Nat) : Int)
      · refine tg (fun _ _ k => ev_ic3 rfl (inI_of (by omega) (by omega)) rfl (fun _ => k) (fun z => absurd c108 (by omega))) ?_
        refine tg (fun _ _ k => ev_go (pc' := 119) (ls' := [some (vR (some 0)), some (vR (some 1)), some (vR (some 190)), some (vR (some 191)), some (vI ((S.length : Nat) : Int)), some (vI ((C.length : Nat) : Int)), some (vI ((D.length : Nat) : Int)), some (vI ((ty : Nat) : Int)), some (vI ((lo : Nat) : Int)), some (vI 1), some (vI ((turns : Nat) : Int)), some (vI ((turn : Nat) : Int)), some (vI ((y : Nat) : Int)), z13, z14, z15, z16, z17, z18, z19]) (st' := [vI ((turn : Nat) : Int), vR (some 0)]) (h1 := HS t m) 2 (by rfl) k) ?_
        obtain ⟨v2, hv2, hE2⟩ := c_draw (L := L) (xs := xs) hL (d := 12) (t := t) (m := m) (k := turn) (by omega)
        refine tg (fun _ _ k => ev_call rfl rfl (Nat.le_of_ble_eq_true rfl) hE2 ⟨Nat.le_refl _, Nat.le_refl _⟩ k) ?_
        show Tg L xs _ 96 122 [some (vR (some 0)), some (vR (some 1)), some (vR (some 190)), some (vR (some 191)), some (vI ((S.length : Nat) : Int)), some (vI ((C.length : Nat) : Int)), some (vI ((D.length : Nat) : Int)), some (vI ((ty : Nat) : Int)), some (vI ((lo : Nat) : Int)), some (vI 1), some (vI ((turns : Nat) : Int)), some (vI ((turn : Nat) : Int)), some (vI ((y : Nat) : Int)), z13, z14, z15, z16, z17, z18, z19] [vI v2] (HS t m) _
        refine tg (fun _ _ k => ev_go (pc' := 124) (ls' := [some (vR (some 0)), some (vR (some 1)), some (vR (some 190)), some (vR (some 191)), some (vI ((S.length : Nat) : Int)), some (vI ((C.length : Nat) : Int)), some (vI ((D.length : Nat) : Int)), some (vI ((ty : Nat) : Int)), some (vI ((lo : Nat) : Int)), some (vI 1), some (vI ((turns : Nat) : Int)), some (vI ((turn : Nat) : Int)), some (vI ((y : Nat) : Int)), z13, z14, z15, z16, z17, z18, z19]) (st' := [vI 31, vI v2]) (h1 := HS t m) 1 (by rfl) k) ?_
        refine tg (fun _ _ k => ev_iandm rfl k) ?_
        obtain ⟨d, hdd, hd⟩ : ∃ d : Nat, v2 % 32 = ((d : Nat) : Int) ∧ d < 32 := int_mod _ (by decide)
        rw [hdd]
        refine tg (fun _ _ k => ev_go (pc' := 127) (ls' := [some (vR (some 0)), some (vR (some 1)), some (vR (some 190)), some (vR (some 191)), some (vI ((S.length : Nat) : Int)), some (vI ((C.length : Nat) : Int)), some (vI ((D.length : Nat) : Int)), some (vI ((ty : Nat) : Int)), some (vI ((lo : Nat) : Int)), some (vI 1), some (vI ((turns : Nat) : Int)), some (vI ((turn : Nat) : Int)), some (vI ((y : Nat) : Int)), some (vI ((d : Nat) : Int)), z14, z15, z16, z17, z18, z19]) (st' := []) (h1 := HS t m) 1 (by rfl) k) ?_
        exact g_turn hI hG hy hd hlo (by omega) hTY K
      · refine tg (fun _ _ k => ev_ic3 rfl (inI_of (by omega) (by omega)) rfl (fun z => absurd z c108) (fun _ => k)) ?_
        refine tg (fun _ _ k => ev_go (pc' := 127) (ls' := [some (vR (some 0)), some (vR (some 1)), some (vR (some 190)), some (vR (some 191)), some (vI ((S.length : Nat) : Int)), some (vI ((C.length : Nat) : Int)), some (vI ((D.length : Nat) : Int)), some (vI ((ty : Nat) : Int)), some (vI ((lo : Nat) : Int)), some (vI 1), some (vI ((turns : Nat) : Int)), some (vI ((turn : Nat) : Int)), some (vI ((y : Nat) : Int)), some (vI 20), z14, z15, z16, z17, z18, z19]) (st' := []) (h1 := HS t m) 3 (by rfl) k) ?_
        exact g_turn (d := 20) hI hG hy (by decide) hlo (by omega) hTY K
    · refine tg (fun _ _ k => ev_ic3 rfl (inI_of (by omega) (by omega)) rfl (fun z => absurd z c98) (fun _ => k)) ?_
      refine tg (fun _ _ k => ev_go (pc' := 127) (ls' := [some (vR (some 0)), some (vR (some 1)), some (vR (some 190)), some (vR (some 191)), some (vI ((S.length : Nat) : Int)), some (vI ((C.length : Nat) : Int)), some (vI ((D.length : Nat) : Int)), some (vI ((ty : Nat) : Int)), some (vI ((lo : Nat) : Int)), some (vI 1), some (vI ((turns : Nat) : Int)), some (vI ((turn : Nat) : Int)), some (vI ((y : Nat) : Int)), some (vI 0), z14, z15, z16, z17, z18, z19]) (st' := []) (h1 := HS t m) 3 (by rfl) k) ?_
      exact g_turn (d := 0) hI hG hy (by decide) hlo (by omega) hTY K
def mI : mMM := fun _ _ => 0
theorem IV_start : IV mI 0 0 [] [] [] := by
  have z : ∀ b j, mI b j = 0 := fun _ _ => rfl
  exact ⟨⟨⟨z _ _, z _ _⟩, ⟨⟨z _ _, Nat.zero_le _, fun i hi => absurd hi (Nat.not_lt_zero i)⟩, ⟨⟨z _ _, Nat.zero_le _, fun i hi => absurd hi (Nat.not_lt_zero i)⟩, z _ _⟩, fun i _ _ => ⟨z _ _, z _ _⟩, z _ _, fun h _ => z _ _, fun g _ h _ => z _ _⟩, ⟨z _ _, Nat.zero_le _, fun i hi => absurd hi (Nat.not_lt_zero i)⟩, fun p _ k _ => by rw [z]; decide⟩, ⟨VWk_0, Nat.zero_le _⟩, ⟨Nat.zero_le _, fun x hx => absurd hx List.not_mem_nil⟩, ⟨Nat.zero_le _, fun x hx => absurd hx List.not_mem_nil⟩, fun x hx => absurd hx List.not_mem_nil⟩
set_option maxRecDepth 100000 in
theorem law_all {L : Nat} {xs : Nat → Int32} (hL : L ≤ 260) : Tg L xs 13 96 0 (entL 20 [vR (some 0)]) [] h00 (fun o h' => o = .inl (some (vI 1)) ∧ mC h' ≤ 600172 ∧ mSl h' ≤ 7300668) := by
  refine tg (fun _ _ k => ev_go (pc' := 4) (ls' := [some (vR (some 0)), none, none, none, none, none, none, none, none, none, none, none, none, none, none, none, none, none, none, none]) (st' := [vR (some 1), vR (some 1)]) (h1 := hq_0) 2 (by rfl) k) ?_
  refine tg (fun _ _ k => ev_call rfl rfl (Nat.le_of_ble_eq_true rfl) ct_55 ⟨by decide +kernel, by decide +kernel⟩ k) ?_
  show Tg L xs 13 96 7 [some (vR (some 0)), none, none, none, none, none, none, none, none, none, none, none, none, none, none, none, none, none, none, none] [vR (some 1)] hq_207 _
  refine tg (fun _ _ k => ev_go (pc' := 39) (ls' := [some (vR (some 0)), some (vR (some 1)), some (vR (some 190)), some (vR (some 191)), some (vI 0), some (vI 0), some (vI 0), some (vI 0), some (vI 0), some (vI 1), none, none, none, none, none, none, none, none, none, none]) (st' := [vI 60, vI ((L : Nat) : Int)]) (h1 := HS (true, 191, 1239) mI) 22 (by rfl) k) ?_
  by_cases c39 : 60 ≤ ((L : Nat) : Int)
  · refine tg (fun _ _ k => ev_ic3 rfl (inI_of (by omega) (by omega)) rfl (fun _ => k) (fun z => absurd c39 (by omega))) ?_
    refine tg (fun _ _ k => ev_go (pc' := 52) (ls' := [some (vR (some 0)), some (vR (some 1)), some (vR (some 190)), some (vR (some 191)), some (vI 0), some (vI 0), some (vI 0), some (vI 0), some (vI 0), some (vI 1), none, none, none, none, none, none, none, none, none, none]) (st' := [vI 110, vI ((L : Nat) : Int)]) (h1 := HS (true, 191, 1239) mI) 3 (by rfl) k) ?_
    by_cases c52 : 110 ≤ ((L : Nat) : Int)
    · refine tg (fun _ _ k => ev_ic3 rfl (inI_of (by omega) (by omega)) rfl (fun _ => k) (fun z => absurd c52 (by omega))) ?_
      refine tg (fun _ _ k => ev_go (pc' := 70) (ls' := [some (vR (some 0)), some (vR (some 1)), some (vR (some 190)), some (vR (some 191)), some (vI 0), some (vI 0), some (vI 0), some (vI 0), some (vI 0), some (vI 1), some (vI 190), some (vI 0), none, none, none, none, none, none, none, none]) (st' := []) (h1 := HS (true, 191, 1239) mI) 4 (by rfl) k) ?_
      exact law_loop hL (turns := 190) (by omega) (190) 0 (true, 191, 1239) mI 0 0 [] [] [] 0 0 _ _ _ _ _ _ _ _ (by omega) IV_start (GA_nil _) (Or.inl ⟨rfl, rfl⟩) (by decide) (by show 191 + 3 * (190) ≤ 2000; omega) (by show 1239 + 18 * (190) ≤ 20000; omega)
    · refine tg (fun _ _ k => ev_ic3 rfl (inI_of (by omega) (by omega)) rfl (fun z => absurd z c52) (fun _ => k)) ?_
      refine tg (fun _ _ k => ev_go (pc' := 70) (ls' := [some (vR (some 0)), some (vR (some 1)), some (vR (some 190)), some (vR (some 191)), some (vI 0), some (vI 0), some (vI 0), some (vI 0), some (vI 0), some (vI 1), some (vI ((2 * L : Nat) : Int)), some (vI 0), none, none, none, none, none, none, none, none]) (st' := []) (h1 := HS (true, 191, 1239) mI) 8 (by rfl) k) ?_
      exact law_loop hL (turns := (2 * L)) (by omega) ((2 * L)) 0 (true, 191, 1239) mI 0 0 [] [] [] 0 0 _ _ _ _ _ _ _ _ (by omega) IV_start (GA_nil _) (Or.inl ⟨rfl, rfl⟩) (by decide) (by show 191 + 3 * ((2 * L)) ≤ 2000; omega) (by show 1239 + 18 * ((2 * L)) ≤ 20000; omega)
  · refine tg (fun _ _ k => ev_ic3 rfl (inI_of (by omega) (by omega)) rfl (fun z => absurd z c39) (fun _ => k)) ?_
    refine tg (fun _ _ k => ev_go (pc' := 70) (ls' := [some (vR (some 0)), some (vR (some 1)), some (vR (some 190)), some (vR (some 191)), some (vI 0), some (vI 0), some (vI 0), some (vI 0), some (vI 0), some (vI 1), some (vI 140), some (vI 0), none, none, none, none, none, none, none, none]) (st' := []) (h1 := HS (true, 191, 1239) mI) 5 (by rfl) k) ?_
    exact law_loop hL (turns := 140) (by omega) (140) 0 (true, 191, 1239) mI 0 0 [] [] [] 0 0 _ _ _ _ _ _ _ _ (by omega) IV_start (GA_nil _) (Or.inl ⟨rfl, rfl⟩) (by decide) (by show 191 + 3 * (140) ≤ 2000; omega) (by show 1239 + 18 * (140) ≤ 20000; omega)
