/-! ===== the law, case by case ===== -/
abbrev ll (i : Nat) (a b c : Option mMV) : mLS := [some (vR (some 0)), some (vR (some 1)), some (vR (some 190)), some (vR (some 204)), some (vI ((i : Nat) : Int)), a, b, c]
theorem xs_in (x : Int32) : inI x.toInt = true := inI_of (by have := Int32.le_toInt x; omega) (by have := Int32.toInt_lt x; omega)
theorem xs_bd (x : Int32) : -2147483648 ≤ x.toInt ∧ x.toInt < 2147483648 := ⟨by have := Int32.le_toInt x; omega, by have := Int32.toInt_lt x; omega⟩
theorem cmp_self (v : Int) : (if v < v then -1 else if v = v then 0 else 1 : Int) = 0 := by rw [if_neg (Int.lt_irrefl v), if_pos rfl]
theorem inJ_I {v : Int} (h : inI v = true) : inJ v = true := by
  unfold inI at h
  rw [Bool.and_eq_true, decide_eq_true_eq, decide_eq_true_eq] at h
  exact inJ_of (by omega) (by omega)
/-- a case of the law: from its place to the end of the loop's body, with the state alike -/
def LCP (L : Nat) (xs : Nat → Int32) (i pc : Nat) : Prop := ∀ (t : Bool × Nat × Nat) (m : mMM) (w : Int) (k : Nat) (C : List Tx) (D : List (Int × Nat)) (S : List (Int × Int)) (z5 z6 z7 : Option mMV), RA m w k C D S → ∃ (t' : Bool × Nat × Nat) (m' : mMM) (w' : Int) (k' : Nat) (C' : List Tx) (D' : List (Int × Nat)) (S' : List (Int × Int)) (y5 y6 y7 : Option mMV), RA m' w' k' C' D' S' ∧ (t.2.1 ≤ t'.2.1 ∧ t'.2.1 ≤ t.2.1 + 1) ∧ (t.2.2 ≤ t'.2.2 ∧ t'.2.2 ≤ t.2.2 + 6) ∧ ∀ o h', Ev (PP L xs) 11 141 998 (ll i y5 y6 y7) [] (HS t' m') o h' → Ev (PP L xs) 11 141 pc (ll i z5 z6 z7) [] (HS t m) o h'
set_option maxRecDepth 10000 in
theorem lc_letter {L : Nat} {xs : Nat → Int32} {i : Nat} (hi : i + 3 ≤ L) : LCP L xs i 116 := by
  intro t m w k C D S z5 z6 z7 hA
  obtain ⟨kk, v, t2, mm, m2, w2, k2, C2, D2, S2, h1, h2, e0, hkI, e4, hv, hA2, hc, hs, hQ⟩ := op_letter (L := L) (xs := xs) (t := t) hA (c := (xs (i + 1)).toInt % 65536) (by omega)
  refine ⟨t2, m2, w2, k2, C2, D2, S2, some (vI kk), (some (vI v)), z7, hA2, hc, hs, fun o h' hE => ?_⟩
  refine ev_go (pc' := 122) (ls' := [some (vR (some 0)), some (vR (some 1)), some (vR (some 190)), some (vR (some 204)), some (vI ((i : Nat) : Int)), z5, z6, z7]) (st' := [vI ((i + 1 : Nat) : Int), vR (some 0), vR (some 1)]) (h1 := HS t m) 5 (by rfl) ?_
  refine ev_sld (k := (i + 1)) rfl rfl (by omega) ?_
  refine ev_go (pc' := 125) (ls' := [some (vR (some 0)), some (vR (some 1)), some (vR (some 190)), some (vR (some 204)), some (vI ((i : Nat) : Int)), z5, z6, z7]) (st' := [vR (some 204), vI ((xs (i + 1)).toInt % 65536), vR (some 1)]) (h1 := HS t m) 2 (by rfl) ?_
  refine ev_call rfl rfl (Nat.le_of_ble_eq_true rfl) h1 ⟨hc.1, hs.1⟩ ?_
  show Ev (PP L xs) _ 141 128 [some (vR (some 0)), some (vR (some 1)), some (vR (some 190)), some (vR (some 204)), some (vI ((i : Nat) : Int)), z5, z6, z7] [vI kk] (HS t2 mm) _ _
  refine ev_go (pc' := 136) (ls' := [some (vR (some 0)), some (vR (some 1)), some (vR (some 190)), some (vR (some 204)), some (vI ((i : Nat) : Int)), some (vI kk), z6, z7]) (st' := [vI ((i + 1 : Nat) : Int), vR (some 0), vR (some 190)]) (h1 := HS t2 mm) 6 (by rfl) ?_
  refine ev_sld (k := (i + 1)) rfl rfl (by omega) ?_
  refine ev_go (pc' := 138) (ls' := [some (vR (some 0)), some (vR (some 1)), some (vR (some 190)), some (vR (some 204)), some (vI ((i : Nat) : Int)), some (vI kk), z6, z7]) (st' := [vI ((xs (i + 1)).toInt % 65536), vR (some 190)]) (h1 := HS t2 mm) 1 (by rfl) ?_
  refine ev_call rfl rfl (Nat.le_of_ble_eq_true rfl) h2 ⟨Nat.le_refl _, Nat.le_refl _⟩ ?_
  show Ev (PP L xs) _ 141 141 [some (vR (some 0)), some (vR (some 1)), some (vR (some 190)), some (vR (some 204)), some (vI ((i : Nat) : Int)), some (vI kk), z6, z7] [vI v] (HS t2 m2) _ _
  refine ev_go (pc' := 144) (ls' := [some (vR (some 0)), some (vR (some 1)), some (vR (some 190)), some (vR (some 204)), some (vI ((i : Nat) : Int)), some (vI kk), some (vI v), z7]) (st' := [vR (some 190)]) (h1 := HS t2 m2) 2 (by rfl) ?_
  have hth := m_thrown (L := L) (xs := xs) (d := 10) (t := t2) (m := m2)
  rw [e0] at hth
  refine ev_call rfl rfl (Nat.le_of_ble_eq_true rfl) hth ⟨Nat.le_refl _, Nat.le_refl _⟩ ?_
  show Ev (PP L xs) _ 141 147 [some (vR (some 0)), some (vR (some 1)), some (vR (some 190)), some (vR (some 204)), some (vI ((i : Nat) : Int)), some (vI kk), some (vI v), z7] [vI kk] (HS t2 m2) _ _
  refine ev_go (pc' := 149) (ls' := [some (vR (some 0)), some (vR (some 1)), some (vR (some 190)), some (vR (some 204)), some (vI ((i : Nat) : Int)), some (vI kk), some (vI v), z7]) (st' := [vI kk, vI kk]) (h1 := HS t2 m2) 1 (by rfl) ?_
  refine ev_ic0 rfl hkI hkI (fun c149 => ?_) (fun c149 => absurd c149 (fun h => h rfl))
  refine ev_go (pc' := 156) (ls' := [some (vR (some 0)), some (vR (some 1)), some (vR (some 190)), some (vR (some 204)), some (vI ((i : Nat) : Int)), some (vI kk), some (vI v), z7]) (st' := [vI kk]) (h1 := HS t2 m2) 1 (by rfl) ?_
  refine ev_if1 rfl hkI (fun c156 => ?_) (fun c156 => ?_)
  · refine ev_go (pc' := 998) (ls' := [some (vR (some 0)), some (vR (some 1)), some (vR (some 190)), some (vR (some 204)), some (vI ((i : Nat) : Int)), some (vI kk), some (vI v), z7]) (st' := []) (h1 := HS t2 m2) 1 (by rfl) ?_
    exact hE
  · refine ev_go (pc' := 161) (ls' := [some (vR (some 0)), some (vR (some 1)), some (vR (some 190)), some (vR (some 204)), some (vI ((i : Nat) : Int)), some (vI kk), some (vI v), z7]) (st' := [vI 0, vR (some 204)]) (h1 := HS t2 m2) 2 (by rfl) ?_
    refine ev_laldv (k := 0) (v := v) rfl rfl rfl (by omega) ((e4 (by assumption))) ?_
    refine ev_go (pc' := 164) (ls' := [some (vR (some 0)), some (vR (some 1)), some (vR (some 190)), some (vR (some 204)), some (vI ((i : Nat) : Int)), some (vI kk), some (vI v), z7]) (st' := [vI v, vJ v]) (h1 := HS t2 m2) 1 (by rfl) ?_
    refine ev_i2l rfl hv ?_
    refine ev_lcmp rfl (inJ_I hv) (inJ_I hv) ?_
    refine ev_if0 rfl (cmp_in _ _) (fun c166 => ?_) (fun c166 => absurd c166 (fun h => h (cmp_self v)))
    refine ev_go (pc' := 998) (ls' := [some (vR (some 0)), some (vR (some 1)), some (vR (some 190)), some (vR (some 204)), some (vI ((i : Nat) : Int)), some (vI kk), some (vI v), z7]) (st' := []) (h1 := HS t2 m2) 1 (by rfl) ?_
    exact hE
set_option maxRecDepth 10000 in
theorem lc_tag {L : Nat} {xs : Nat → Int32} {i : Nat} (hi : i + 3 ≤ L) : LCP L xs i 174 := by
  intro t m w k C D S z5 z6 z7 hA
  obtain ⟨kk, v, t2, mm, m2, w2, k2, C2, D2, S2, h1, h2, e0, hkI, e4, hv, hA2, hc, hs, hQ⟩ := op_tag (L := L) (xs := xs) (t := t) hA (c := (xs (i + 1)).toInt) (xs_in _)
  refine ⟨t2, m2, w2, k2, C2, D2, S2, some (vI kk), (some (vI v)), z7, hA2, hc, hs, fun o h' hE => ?_⟩
  refine ev_go (pc' := 180) (ls' := [some (vR (some 0)), some (vR (some 1)), some (vR (some 190)), some (vR (some 204)), some (vI ((i : Nat) : Int)), z5, z6, z7]) (st' := [vI ((i + 1 : Nat) : Int), vR (some 0), vR (some 1)]) (h1 := HS t m) 5 (by rfl) ?_
  refine ev_sld (k := (i + 1)) rfl rfl (by omega) ?_
  refine ev_go (pc' := 182) (ls' := [some (vR (some 0)), some (vR (some 1)), some (vR (some 190)), some (vR (some 204)), some (vI ((i : Nat) : Int)), z5, z6, z7]) (st' := [vR (some 204), vI (xs (i + 1)).toInt, vR (some 1)]) (h1 := HS t m) 1 (by rfl) ?_
  refine ev_call rfl rfl (Nat.le_of_ble_eq_true rfl) h1 ⟨hc.1, hs.1⟩ ?_
  show Ev (PP L xs) _ 141 185 [some (vR (some 0)), some (vR (some 1)), some (vR (some 190)), some (vR (some 204)), some (vI ((i : Nat) : Int)), z5, z6, z7] [vI kk] (HS t2 mm) _ _
  refine ev_go (pc' := 193) (ls' := [some (vR (some 0)), some (vR (some 1)), some (vR (some 190)), some (vR (some 204)), some (vI ((i : Nat) : Int)), some (vI kk), z6, z7]) (st' := [vI ((i + 1 : Nat) : Int), vR (some 0), vR (some 190)]) (h1 := HS t2 mm) 6 (by rfl) ?_
  refine ev_sld (k := (i + 1)) rfl rfl (by omega) ?_
  refine ev_call rfl rfl (Nat.le_of_ble_eq_true rfl) h2 ⟨Nat.le_refl _, Nat.le_refl _⟩ ?_
  show Ev (PP L xs) _ 141 197 [some (vR (some 0)), some (vR (some 1)), some (vR (some 190)), some (vR (some 204)), some (vI ((i : Nat) : Int)), some (vI kk), z6, z7] [vI v] (HS t2 m2) _ _
  refine ev_go (pc' := 200) (ls' := [some (vR (some 0)), some (vR (some 1)), some (vR (some 190)), some (vR (some 204)), some (vI ((i : Nat) : Int)), some (vI kk), some (vI v), z7]) (st' := [vR (some 190)]) (h1 := HS t2 m2) 2 (by rfl) ?_
  have hth := m_thrown (L := L) (xs := xs) (d := 10) (t := t2) (m := m2)
  rw [e0] at hth
  refine ev_call rfl rfl (Nat.le_of_ble_eq_true rfl) hth ⟨Nat.le_refl _, Nat.le_refl _⟩ ?_
  show Ev (PP L xs) _ 141 203 [some (vR (some 0)), some (vR (some 1)), some (vR (some 190)), some (vR (some 204)), some (vI ((i : Nat) : Int)), some (vI kk), some (vI v), z7] [vI kk] (HS t2 m2) _ _
  refine ev_go (pc' := 205) (ls' := [some (vR (some 0)), some (vR (some 1)), some (vR (some 190)), some (vR (some 204)), some (vI ((i : Nat) : Int)), some (vI kk), some (vI v), z7]) (st' := [vI kk, vI kk]) (h1 := HS t2 m2) 1 (by rfl) ?_
  refine ev_ic0 rfl hkI hkI (fun c205 => ?_) (fun c205 => absurd c205 (fun h => h rfl))
  refine ev_go (pc' := 212) (ls' := [some (vR (some 0)), some (vR (some 1)), some (vR (some 190)), some (vR (some 204)), some (vI ((i : Nat) : Int)), some (vI kk), some (vI v), z7]) (st' := [vI kk]) (h1 := HS t2 m2) 1 (by rfl) ?_
  refine ev_if1 rfl hkI (fun c212 => ?_) (fun c212 => ?_)
  · refine ev_go (pc' := 998) (ls' := [some (vR (some 0)), some (vR (some 1)), some (vR (some 190)), some (vR (some 204)), some (vI ((i : Nat) : Int)), some (vI kk), some (vI v), z7]) (st' := []) (h1 := HS t2 m2) 1 (by rfl) ?_
    exact hE
  · refine ev_go (pc' := 217) (ls' := [some (vR (some 0)), some (vR (some 1)), some (vR (some 190)), some (vR (some 204)), some (vI ((i : Nat) : Int)), some (vI kk), some (vI v), z7]) (st' := [vI 0, vR (some 204)]) (h1 := HS t2 m2) 2 (by rfl) ?_
    refine ev_laldv (k := 0) (v := v) rfl rfl rfl (by omega) ((e4 (by assumption))) ?_
    refine ev_go (pc' := 220) (ls' := [some (vR (some 0)), some (vR (some 1)), some (vR (some 190)), some (vR (some 204)), some (vI ((i : Nat) : Int)), some (vI kk), some (vI v), z7]) (st' := [vI v, vJ v]) (h1 := HS t2 m2) 1 (by rfl) ?_
    refine ev_i2l rfl hv ?_
    refine ev_lcmp rfl (inJ_I hv) (inJ_I hv) ?_
    refine ev_if0 rfl (cmp_in _ _) (fun c222 => ?_) (fun c222 => absurd c222 (fun h => h (cmp_self v)))
    refine ev_go (pc' := 998) (ls' := [some (vR (some 0)), some (vR (some 1)), some (vR (some 190)), some (vR (some 204)), some (vI ((i : Nat) : Int)), some (vI kk), some (vI v), z7]) (st' := []) (h1 := HS t2 m2) 1 (by rfl) ?_
    exact hE
set_option maxRecDepth 10000 in
theorem lc_add {L : Nat} {xs : Nat → Int32} {i : Nat} (hi : i + 3 ≤ L) : LCP L xs i 230 := by
  intro t m w k C D S z5 z6 z7 hA
  obtain ⟨kk, v, t2, mm, m2, w2, k2, C2, D2, S2, h1, h2, e0, hkI, e4, hv, hA2, hc, hs, hQ⟩ := op_add (L := L) (xs := xs) (t := t) hA 
  refine ⟨t2, m2, w2, k2, C2, D2, S2, some (vI kk), (some (vI v)), z7, hA2, hc, hs, fun o h' hE => ?_⟩
  refine ev_go (pc' := 232) (ls' := [some (vR (some 0)), some (vR (some 1)), some (vR (some 190)), some (vR (some 204)), some (vI ((i : Nat) : Int)), z5, z6, z7]) (st' := [vR (some 204), vR (some 1)]) (h1 := HS t m) 2 (by rfl) ?_
  refine ev_call rfl rfl (Nat.le_of_ble_eq_true rfl) h1 ⟨hc.1, hs.1⟩ ?_
  show Ev (PP L xs) _ 141 235 [some (vR (some 0)), some (vR (some 1)), some (vR (some 190)), some (vR (some 204)), some (vI ((i : Nat) : Int)), z5, z6, z7] [vI kk] (HS t2 mm) _ _
  refine ev_go (pc' := 238) (ls' := [some (vR (some 0)), some (vR (some 1)), some (vR (some 190)), some (vR (some 204)), some (vI ((i : Nat) : Int)), some (vI kk), z6, z7]) (st' := [vR (some 190)]) (h1 := HS t2 mm) 2 (by rfl) ?_
  refine ev_call rfl rfl (Nat.le_of_ble_eq_true rfl) h2 ⟨Nat.le_refl _, Nat.le_refl _⟩ ?_
  show Ev (PP L xs) _ 141 241 [some (vR (some 0)), some (vR (some 1)), some (vR (some 190)), some (vR (some 204)), some (vI ((i : Nat) : Int)), some (vI kk), z6, z7] [vI v] (HS t2 m2) _ _
  refine ev_go (pc' := 244) (ls' := [some (vR (some 0)), some (vR (some 1)), some (vR (some 190)), some (vR (some 204)), some (vI ((i : Nat) : Int)), some (vI kk), some (vI v), z7]) (st' := [vR (some 190)]) (h1 := HS t2 m2) 2 (by rfl) ?_
  have hth := m_thrown (L := L) (xs := xs) (d := 10) (t := t2) (m := m2)
  rw [e0] at hth
  refine ev_call rfl rfl (Nat.le_of_ble_eq_true rfl) hth ⟨Nat.le_refl _, Nat.le_refl _⟩ ?_
  show Ev (PP L xs) _ 141 247 [some (vR (some 0)), some (vR (some 1)), some (vR (some 190)), some (vR (some 204)), some (vI ((i : Nat) : Int)), some (vI kk), some (vI v), z7] [vI kk] (HS t2 m2) _ _
  refine ev_go (pc' := 249) (ls' := [some (vR (some 0)), some (vR (some 1)), some (vR (some 190)), some (vR (some 204)), some (vI ((i : Nat) : Int)), some (vI kk), some (vI v), z7]) (st' := [vI kk, vI kk]) (h1 := HS t2 m2) 1 (by rfl) ?_
  refine ev_ic0 rfl hkI hkI (fun c249 => ?_) (fun c249 => absurd c249 (fun h => h rfl))
  refine ev_go (pc' := 256) (ls' := [some (vR (some 0)), some (vR (some 1)), some (vR (some 190)), some (vR (some 204)), some (vI ((i : Nat) : Int)), some (vI kk), some (vI v), z7]) (st' := [vI kk]) (h1 := HS t2 m2) 1 (by rfl) ?_
  refine ev_if1 rfl hkI (fun c256 => ?_) (fun c256 => ?_)
  · refine ev_go (pc' := 998) (ls' := [some (vR (some 0)), some (vR (some 1)), some (vR (some 190)), some (vR (some 204)), some (vI ((i : Nat) : Int)), some (vI kk), some (vI v), z7]) (st' := []) (h1 := HS t2 m2) 1 (by rfl) ?_
    exact hE
  · refine ev_go (pc' := 261) (ls' := [some (vR (some 0)), some (vR (some 1)), some (vR (some 190)), some (vR (some 204)), some (vI ((i : Nat) : Int)), some (vI kk), some (vI v), z7]) (st' := [vI 0, vR (some 204)]) (h1 := HS t2 m2) 2 (by rfl) ?_
    refine ev_laldv (k := 0) (v := v) rfl rfl rfl (by omega) ((e4 (by assumption))) ?_
    refine ev_go (pc' := 264) (ls' := [some (vR (some 0)), some (vR (some 1)), some (vR (some 190)), some (vR (some 204)), some (vI ((i : Nat) : Int)), some (vI kk), some (vI v), z7]) (st' := [vI v, vJ v]) (h1 := HS t2 m2) 1 (by rfl) ?_
    refine ev_i2l rfl hv ?_
    refine ev_lcmp rfl (inJ_I hv) (inJ_I hv) ?_
    refine ev_if0 rfl (cmp_in _ _) (fun c266 => ?_) (fun c266 => absurd c266 (fun h => h (cmp_self v)))
    refine ev_go (pc' := 998) (ls' := [some (vR (some 0)), some (vR (some 1)), some (vR (some 190)), some (vR (some 204)), some (vI ((i : Nat) : Int)), some (vI kk), some (vI v), z7]) (st' := []) (h1 := HS t2 m2) 1 (by rfl) ?_
    exact hE
set_option maxRecDepth 10000 in
theorem lc_text {L : Nat} {xs : Nat → Int32} {i : Nat} (hi : i + 3 ≤ L) : LCP L xs i 274 := by
  intro t m w k C D S z5 z6 z7 hA
  by_cases hb : (xs (i + 2)).toInt = 0
  · obtain ⟨kk, v, t2, mm, m2, w2, k2, C2, D2, S2, h1, h2, e0, hkI, e4, hv, hA2, hc, hs, hQ⟩ := op_text (L := L) (xs := xs) (t := t) hA (c := (xs (i + 1)).toInt) (e := 0) (xs_bd _) (by decide)
    refine ⟨t2, m2, w2, k2, C2, D2, S2, some (vI kk), (some (vI v)), z7, hA2, hc, hs, fun o h' hE => ?_⟩
    have hQ : v = 0 ∨ v = 1 := hQ
    refine ev_go (pc' := 280) (ls' := [some (vR (some 0)), some (vR (some 1)), some (vR (some 190)), some (vR (some 204)), some (vI ((i : Nat) : Int)), z5, z6, z7]) (st' := [vI ((i + 1 : Nat) : Int), vR (some 0), vR (some 1)]) (h1 := HS t m) 5 (by rfl) ?_
    refine ev_sld (k := (i + 1)) rfl rfl (by omega) ?_
    refine ev_go (pc' := 286) (ls' := [some (vR (some 0)), some (vR (some 1)), some (vR (some 190)), some (vR (some 204)), some (vI ((i : Nat) : Int)), z5, z6, z7]) (st' := [vI ((i + 2 : Nat) : Int), vR (some 0), vI (xs (i + 1)).toInt, vR (some 1)]) (h1 := HS t m) 4 (by rfl) ?_
    refine ev_sld (k := (i + 2)) rfl rfl (by omega) ?_
    refine ev_if0 rfl (xs_in _) (fun c287 => ?_) (fun c287 => absurd c287 (fun h => h hb))
    refine ev_go (pc' := 296) (ls' := [some (vR (some 0)), some (vR (some 1)), some (vR (some 190)), some (vR (some 204)), some (vI ((i : Nat) : Int)), z5, z6, z7]) (st' := [vR (some 204), vI 0, vI (xs (i + 1)).toInt, vR (some 1)]) (h1 := HS t m) 2 (by rfl) ?_
    refine ev_call rfl rfl (Nat.le_of_ble_eq_true rfl) h1 ⟨hc.1, hs.1⟩ ?_
    show Ev (PP L xs) _ 141 299 [some (vR (some 0)), some (vR (some 1)), some (vR (some 190)), some (vR (some 204)), some (vI ((i : Nat) : Int)), z5, z6, z7] [vI kk] (HS t2 mm) _ _
    refine ev_go (pc' := 307) (ls' := [some (vR (some 0)), some (vR (some 1)), some (vR (some 190)), some (vR (some 204)), some (vI ((i : Nat) : Int)), some (vI kk), z6, z7]) (st' := [vI ((i + 1 : Nat) : Int), vR (some 0), vR (some 190)]) (h1 := HS t2 mm) 6 (by rfl) ?_
    refine ev_sld (k := (i + 1)) rfl rfl (by omega) ?_
    refine ev_go (pc' := 313) (ls' := [some (vR (some 0)), some (vR (some 1)), some (vR (some 190)), some (vR (some 204)), some (vI ((i : Nat) : Int)), some (vI kk), z6, z7]) (st' := [vI ((i + 2 : Nat) : Int), vR (some 0), vI (xs (i + 1)).toInt, vR (some 190)]) (h1 := HS t2 mm) 4 (by rfl) ?_
    refine ev_sld (k := (i + 2)) rfl rfl (by omega) ?_
    refine ev_if0 rfl (xs_in _) (fun c314 => ?_) (fun c314 => absurd c314 (fun h => h hb))
    refine ev_go (pc' := 322) (ls' := [some (vR (some 0)), some (vR (some 1)), some (vR (some 190)), some (vR (some 204)), some (vI ((i : Nat) : Int)), some (vI kk), z6, z7]) (st' := [vI 0, vI (xs (i + 1)).toInt, vR (some 190)]) (h1 := HS t2 mm) 1 (by rfl) ?_
    refine ev_call rfl rfl (Nat.le_of_ble_eq_true rfl) h2 ⟨Nat.le_refl _, Nat.le_refl _⟩ ?_
    show Ev (PP L xs) _ 141 325 [some (vR (some 0)), some (vR (some 1)), some (vR (some 190)), some (vR (some 204)), some (vI ((i : Nat) : Int)), some (vI kk), z6, z7] [vI v] (HS t2 m2) _ _
    refine ev_go (pc' := 328) (ls' := [some (vR (some 0)), some (vR (some 1)), some (vR (some 190)), some (vR (some 204)), some (vI ((i : Nat) : Int)), some (vI kk), some (vI v), z7]) (st' := [vR (some 190)]) (h1 := HS t2 m2) 2 (by rfl) ?_
    have hth := m_thrown (L := L) (xs := xs) (d := 10) (t := t2) (m := m2)
    rw [e0] at hth
    refine ev_call rfl rfl (Nat.le_of_ble_eq_true rfl) hth ⟨Nat.le_refl _, Nat.le_refl _⟩ ?_
    show Ev (PP L xs) _ 141 331 [some (vR (some 0)), some (vR (some 1)), some (vR (some 190)), some (vR (some 204)), some (vI ((i : Nat) : Int)), some (vI kk), some (vI v), z7] [vI kk] (HS t2 m2) _ _
    refine ev_go (pc' := 333) (ls' := [some (vR (some 0)), some (vR (some 1)), some (vR (some 190)), some (vR (some 204)), some (vI ((i : Nat) : Int)), some (vI kk), some (vI v), z7]) (st' := [vI kk, vI kk]) (h1 := HS t2 m2) 1 (by rfl) ?_
    refine ev_ic0 rfl hkI hkI (fun c333 => ?_) (fun c333 => absurd c333 (fun h => h rfl))
    refine ev_go (pc' := 340) (ls' := [some (vR (some 0)), some (vR (some 1)), some (vR (some 190)), some (vR (some 204)), some (vI ((i : Nat) : Int)), some (vI kk), some (vI v), z7]) (st' := [vI kk]) (h1 := HS t2 m2) 1 (by rfl) ?_
    refine ev_if1 rfl hkI (fun c340 => ?_) (fun c340 => ?_)
    · refine ev_go (pc' := 998) (ls' := [some (vR (some 0)), some (vR (some 1)), some (vR (some 190)), some (vR (some 204)), some (vI ((i : Nat) : Int)), some (vI kk), some (vI v), z7]) (st' := []) (h1 := HS t2 m2) 1 (by rfl) ?_
      exact hE
    · refine ev_go (pc' := 345) (ls' := [some (vR (some 0)), some (vR (some 1)), some (vR (some 190)), some (vR (some 204)), some (vI ((i : Nat) : Int)), some (vI kk), some (vI v), z7]) (st' := [vI 0, vR (some 204)]) (h1 := HS t2 m2) 2 (by rfl) ?_
      refine ev_laldv (k := 0) (v := v) rfl rfl rfl (by omega) ((e4 (by assumption))) ?_
      refine ev_go (pc' := 348) (ls' := [some (vR (some 0)), some (vR (some 1)), some (vR (some 190)), some (vR (some 204)), some (vI ((i : Nat) : Int)), some (vI kk), some (vI v), z7]) (st' := [vI v, vJ v]) (h1 := HS t2 m2) 1 (by rfl) ?_
      refine ev_if0 rfl hv (fun c348 => ?_) (fun c348 => ?_)
      · refine ev_go (pc' := 356) (ls' := [some (vR (some 0)), some (vR (some 1)), some (vR (some 190)), some (vR (some 204)), some (vI ((i : Nat) : Int)), some (vI kk), some (vI v), z7]) (st' := [vJ 0, vJ v]) (h1 := HS t2 m2) 1 (by rfl) ?_
        refine ev_lcmp rfl (inJ_I hv) rfl ?_
        refine ev_if0 rfl (cmp_in _ _) (fun c357 => ?_) (fun c357 => absurd c357 (fun h => h (by rw [show v = 0 by omega]; rfl)))
        refine ev_go (pc' := 998) (ls' := [some (vR (some 0)), some (vR (some 1)), some (vR (some 190)), some (vR (some 204)), some (vI ((i : Nat) : Int)), some (vI kk), some (vI v), z7]) (st' := []) (h1 := HS t2 m2) 1 (by rfl) ?_
        exact hE
      · refine ev_go (pc' := 356) (ls' := [some (vR (some 0)), some (vR (some 1)), some (vR (some 190)), some (vR (some 204)), some (vI ((i : Nat) : Int)), some (vI kk), some (vI v), z7]) (st' := [vJ 1, vJ v]) (h1 := HS t2 m2) 2 (by rfl) ?_
        refine ev_lcmp rfl (inJ_I hv) rfl ?_
        refine ev_if0 rfl (cmp_in _ _) (fun c357 => ?_) (fun c357 => absurd c357 (fun h => h (by rw [show v = 1 by omega]; rfl)))
        refine ev_go (pc' := 998) (ls' := [some (vR (some 0)), some (vR (some 1)), some (vR (some 190)), some (vR (some 204)), some (vI ((i : Nat) : Int)), some (vI kk), some (vI v), z7]) (st' := []) (h1 := HS t2 m2) 1 (by rfl) ?_
        exact hE
  · obtain ⟨kk, v, t2, mm, m2, w2, k2, C2, D2, S2, h1, h2, e0, hkI, e4, hv, hA2, hc, hs, hQ⟩ := op_text (L := L) (xs := xs) (t := t) hA (c := (xs (i + 1)).toInt) (e := 1) (xs_bd _) (by decide)
    refine ⟨t2, m2, w2, k2, C2, D2, S2, some (vI kk), (some (vI v)), z7, hA2, hc, hs, fun o h' hE => ?_⟩
    have hQ : v = 0 ∨ v = 1 := hQ
    refine ev_go (pc' := 280) (ls' := [some (vR (some 0)), some (vR (some 1)), some (vR (some 190)), some (vR (some 204)), some (vI ((i : Nat) : Int)), z5, z6, z7]) (st' := [vI ((i + 1 : Nat) : Int), vR (some 0), vR (some 1)]) (h1 := HS t m) 5 (by rfl) ?_
    refine ev_sld (k := (i + 1)) rfl rfl (by omega) ?_
    refine ev_go (pc' := 286) (ls' := [some (vR (some 0)), some (vR (some 1)), some (vR (some 190)), some (vR (some 204)), some (vI ((i : Nat) : Int)), z5, z6, z7]) (st' := [vI ((i + 2 : Nat) : Int), vR (some 0), vI (xs (i + 1)).toInt, vR (some 1)]) (h1 := HS t m) 4 (by rfl) ?_
    refine ev_sld (k := (i + 2)) rfl rfl (by omega) ?_
    refine ev_if0 rfl (xs_in _) (fun c287 => absurd c287 hb) (fun c287 => ?_)
    refine ev_go (pc' := 296) (ls' := [some (vR (some 0)), some (vR (some 1)), some (vR (some 190)), some (vR (some 204)), some (vI ((i : Nat) : Int)), z5, z6, z7]) (st' := [vR (some 204), vI 1, vI (xs (i + 1)).toInt, vR (some 1)]) (h1 := HS t m) 3 (by rfl) ?_
    refine ev_call rfl rfl (Nat.le_of_ble_eq_true rfl) h1 ⟨hc.1, hs.1⟩ ?_
    show Ev (PP L xs) _ 141 299 [some (vR (some 0)), some (vR (some 1)), some (vR (some 190)), some (vR (some 204)), some (vI ((i : Nat) : Int)), z5, z6, z7] [vI kk] (HS t2 mm) _ _
    refine ev_go (pc' := 307) (ls' := [some (vR (some 0)), some (vR (some 1)), some (vR (some 190)), some (vR (some 204)), some (vI ((i : Nat) : Int)), some (vI kk), z6, z7]) (st' := [vI ((i + 1 : Nat) : Int), vR (some 0), vR (some 190)]) (h1 := HS t2 mm) 6 (by rfl) ?_
    refine ev_sld (k := (i + 1)) rfl rfl (by omega) ?_
    refine ev_go (pc' := 313) (ls' := [some (vR (some 0)), some (vR (some 1)), some (vR (some 190)), some (vR (some 204)), some (vI ((i : Nat) : Int)), some (vI kk), z6, z7]) (st' := [vI ((i + 2 : Nat) : Int), vR (some 0), vI (xs (i + 1)).toInt, vR (some 190)]) (h1 := HS t2 mm) 4 (by rfl) ?_
    refine ev_sld (k := (i + 2)) rfl rfl (by omega) ?_
    refine ev_if0 rfl (xs_in _) (fun c314 => absurd c314 hb) (fun c314 => ?_)
    refine ev_go (pc' := 322) (ls' := [some (vR (some 0)), some (vR (some 1)), some (vR (some 190)), some (vR (some 204)), some (vI ((i : Nat) : Int)), some (vI kk), z6, z7]) (st' := [vI 1, vI (xs (i + 1)).toInt, vR (some 190)]) (h1 := HS t2 mm) 2 (by rfl) ?_
    refine ev_call rfl rfl (Nat.le_of_ble_eq_true rfl) h2 ⟨Nat.le_refl _, Nat.le_refl _⟩ ?_
    show Ev (PP L xs) _ 141 325 [some (vR (some 0)), some (vR (some 1)), some (vR (some 190)), some (vR (some 204)), some (vI ((i : Nat) : Int)), some (vI kk), z6, z7] [vI v] (HS t2 m2) _ _
    refine ev_go (pc' := 328) (ls' := [some (vR (some 0)), some (vR (some 1)), some (vR (some 190)), some (vR (some 204)), some (vI ((i : Nat) : Int)), some (vI kk), some (vI v), z7]) (st' := [vR (some 190)]) (h1 := HS t2 m2) 2 (by rfl) ?_
    have hth := m_thrown (L := L) (xs := xs) (d := 10) (t := t2) (m := m2)
    rw [e0] at hth
    refine ev_call rfl rfl (Nat.le_of_ble_eq_true rfl) hth ⟨Nat.le_refl _, Nat.le_refl _⟩ ?_
    show Ev (PP L xs) _ 141 331 [some (vR (some 0)), some (vR (some 1)), some (vR (some 190)), some (vR (some 204)), some (vI ((i : Nat) : Int)), some (vI kk), some (vI v), z7] [vI kk] (HS t2 m2) _ _
    refine ev_go (pc' := 333) (ls' := [some (vR (some 0)), some (vR (some 1)), some (vR (some 190)), some (vR (some 204)), some (vI ((i : Nat) : Int)), some (vI kk), some (vI v), z7]) (st' := [vI kk, vI kk]) (h1 := HS t2 m2) 1 (by rfl) ?_
    refine ev_ic0 rfl hkI hkI (fun c333 => ?_) (fun c333 => absurd c333 (fun h => h rfl))
    refine ev_go (pc' := 340) (ls' := [some (vR (some 0)), some (vR (some 1)), some (vR (some 190)), some (vR (some 204)), some (vI ((i : Nat) : Int)), some (vI kk), some (vI v), z7]) (st' := [vI kk]) (h1 := HS t2 m2) 1 (by rfl) ?_
    refine ev_if1 rfl hkI (fun c340 => ?_) (fun c340 => ?_)
    · refine ev_go (pc' := 998) (ls' := [some (vR (some 0)), some (vR (some 1)), some (vR (some 190)), some (vR (some 204)), some (vI ((i : Nat) : Int)), some (vI kk), some (vI v), z7]) (st' := []) (h1 := HS t2 m2) 1 (by rfl) ?_
      exact hE
    · refine ev_go (pc' := 345) (ls' := [some (vR (some 0)), some (vR (some 1)), some (vR (some 190)), some (vR (some 204)), some (vI ((i : Nat) : Int)), some (vI kk), some (vI v), z7]) (st' := [vI 0, vR (some 204)]) (h1 := HS t2 m2) 2 (by rfl) ?_
      refine ev_laldv (k := 0) (v := v) rfl rfl rfl (by omega) ((e4 (by assumption))) ?_
      refine ev_go (pc' := 348) (ls' := [some (vR (some 0)), some (vR (some 1)), some (vR (some 190)), some (vR (some 204)), some (vI ((i : Nat) : Int)), some (vI kk), some (vI v), z7]) (st' := [vI v, vJ v]) (h1 := HS t2 m2) 1 (by rfl) ?_
      refine ev_if0 rfl hv (fun c348 => ?_) (fun c348 => ?_)
      · refine ev_go (pc' := 356) (ls' := [some (vR (some 0)), some (vR (some 1)), some (vR (some 190)), some (vR (some 204)), some (vI ((i : Nat) : Int)), some (vI kk), some (vI v), z7]) (st' := [vJ 0, vJ v]) (h1 := HS t2 m2) 1 (by rfl) ?_
        refine ev_lcmp rfl (inJ_I hv) rfl ?_
        refine ev_if0 rfl (cmp_in _ _) (fun c357 => ?_) (fun c357 => absurd c357 (fun h => h (by rw [show v = 0 by omega]; rfl)))
        refine ev_go (pc' := 998) (ls' := [some (vR (some 0)), some (vR (some 1)), some (vR (some 190)), some (vR (some 204)), some (vI ((i : Nat) : Int)), some (vI kk), some (vI v), z7]) (st' := []) (h1 := HS t2 m2) 1 (by rfl) ?_
        exact hE
      · refine ev_go (pc' := 356) (ls' := [some (vR (some 0)), some (vR (some 1)), some (vR (some 190)), some (vR (some 204)), some (vI ((i : Nat) : Int)), some (vI kk), some (vI v), z7]) (st' := [vJ 1, vJ v]) (h1 := HS t2 m2) 2 (by rfl) ?_
        refine ev_lcmp rfl (inJ_I hv) rfl ?_
        refine ev_if0 rfl (cmp_in _ _) (fun c357 => ?_) (fun c357 => absurd c357 (fun h => h (by rw [show v = 1 by omega]; rfl)))
        refine ev_go (pc' := 998) (ls' := [some (vR (some 0)), some (vR (some 1)), some (vR (some 190)), some (vR (some 204)), some (vI ((i : Nat) : Int)), some (vI kk), some (vI v), z7]) (st' := []) (h1 := HS t2 m2) 1 (by rfl) ?_
        exact hE
set_option maxRecDepth 10000 in
theorem lc_word {L : Nat} {xs : Nat → Int32} {i : Nat} (hi : i + 3 ≤ L) : LCP L xs i 365 := by
  intro t m w k C D S z5 z6 z7 hA
  obtain ⟨kk, v, t2, mm, m2, w2, k2, C2, D2, S2, h1, h2, e0, hkI, e4, hv, hA2, hc, hs, hQ⟩ := op_word (L := L) (xs := xs) (t := t) hA 
  refine ⟨t2, m2, w2, k2, C2, D2, S2, some (vI kk), (some (vI v)), z7, hA2, hc, hs, fun o h' hE => ?_⟩
  refine ev_go (pc' := 367) (ls' := [some (vR (some 0)), some (vR (some 1)), some (vR (some 190)), some (vR (some 204)), some (vI ((i : Nat) : Int)), z5, z6, z7]) (st' := [vR (some 204), vR (some 1)]) (h1 := HS t m) 2 (by rfl) ?_
  refine ev_call rfl rfl (Nat.le_of_ble_eq_true rfl) h1 ⟨hc.1, hs.1⟩ ?_
  show Ev (PP L xs) _ 141 370 [some (vR (some 0)), some (vR (some 1)), some (vR (some 190)), some (vR (some 204)), some (vI ((i : Nat) : Int)), z5, z6, z7] [vI kk] (HS t2 mm) _ _
  refine ev_go (pc' := 373) (ls' := [some (vR (some 0)), some (vR (some 1)), some (vR (some 190)), some (vR (some 204)), some (vI ((i : Nat) : Int)), some (vI kk), z6, z7]) (st' := [vR (some 190)]) (h1 := HS t2 mm) 2 (by rfl) ?_
  refine ev_call rfl rfl (Nat.le_of_ble_eq_true rfl) h2 ⟨Nat.le_refl _, Nat.le_refl _⟩ ?_
  show Ev (PP L xs) _ 141 376 [some (vR (some 0)), some (vR (some 1)), some (vR (some 190)), some (vR (some 204)), some (vI ((i : Nat) : Int)), some (vI kk), z6, z7] [vI v] (HS t2 m2) _ _
  refine ev_go (pc' := 379) (ls' := [some (vR (some 0)), some (vR (some 1)), some (vR (some 190)), some (vR (some 204)), some (vI ((i : Nat) : Int)), some (vI kk), some (vI v), z7]) (st' := [vR (some 190)]) (h1 := HS t2 m2) 2 (by rfl) ?_
  have hth := m_thrown (L := L) (xs := xs) (d := 10) (t := t2) (m := m2)
  rw [e0] at hth
  refine ev_call rfl rfl (Nat.le_of_ble_eq_true rfl) hth ⟨Nat.le_refl _, Nat.le_refl _⟩ ?_
  show Ev (PP L xs) _ 141 382 [some (vR (some 0)), some (vR (some 1)), some (vR (some 190)), some (vR (some 204)), some (vI ((i : Nat) : Int)), some (vI kk), some (vI v), z7] [vI kk] (HS t2 m2) _ _
  refine ev_go (pc' := 384) (ls' := [some (vR (some 0)), some (vR (some 1)), some (vR (some 190)), some (vR (some 204)), some (vI ((i : Nat) : Int)), some (vI kk), some (vI v), z7]) (st' := [vI kk, vI kk]) (h1 := HS t2 m2) 1 (by rfl) ?_
  refine ev_ic0 rfl hkI hkI (fun c384 => ?_) (fun c384 => absurd c384 (fun h => h rfl))
  refine ev_go (pc' := 391) (ls' := [some (vR (some 0)), some (vR (some 1)), some (vR (some 190)), some (vR (some 204)), some (vI ((i : Nat) : Int)), some (vI kk), some (vI v), z7]) (st' := [vI kk]) (h1 := HS t2 m2) 1 (by rfl) ?_
  refine ev_if1 rfl hkI (fun c391 => ?_) (fun c391 => ?_)
  · refine ev_go (pc' := 998) (ls' := [some (vR (some 0)), some (vR (some 1)), some (vR (some 190)), some (vR (some 204)), some (vI ((i : Nat) : Int)), some (vI kk), some (vI v), z7]) (st' := []) (h1 := HS t2 m2) 1 (by rfl) ?_
    exact hE
  · refine ev_go (pc' := 396) (ls' := [some (vR (some 0)), some (vR (some 1)), some (vR (some 190)), some (vR (some 204)), some (vI ((i : Nat) : Int)), some (vI kk), some (vI v), z7]) (st' := [vI 0, vR (some 204)]) (h1 := HS t2 m2) 2 (by rfl) ?_
    refine ev_laldv (k := 0) (v := v) rfl rfl rfl (by omega) ((e4 (by assumption))) ?_
    refine ev_go (pc' := 399) (ls' := [some (vR (some 0)), some (vR (some 1)), some (vR (some 190)), some (vR (some 204)), some (vI ((i : Nat) : Int)), some (vI kk), some (vI v), z7]) (st' := [vI v, vJ v]) (h1 := HS t2 m2) 1 (by rfl) ?_
    refine ev_i2l rfl hv ?_
    refine ev_lcmp rfl (inJ_I hv) (inJ_I hv) ?_
    refine ev_if0 rfl (cmp_in _ _) (fun c401 => ?_) (fun c401 => absurd c401 (fun h => h (cmp_self v)))
    refine ev_go (pc' := 998) (ls' := [some (vR (some 0)), some (vR (some 1)), some (vR (some 190)), some (vR (some 204)), some (vI ((i : Nat) : Int)), some (vI kk), some (vI v), z7]) (st' := []) (h1 := HS t2 m2) 1 (by rfl) ?_
    exact hE
set_option maxRecDepth 10000 in
theorem lc_clear {L : Nat} {xs : Nat → Int32} {i : Nat} : LCP L xs i 409 := by
  intro t m w k C D S z5 z6 z7 hA
  obtain ⟨v, m1, m2, w2, k2, C2, D2, S2, h1, h2, hv, hA2⟩ := op_clear (L := L) (xs := xs) (t := t) hA
  refine ⟨t, m2, w2, k2, C2, D2, S2, z5, z6, z7, hA2, ⟨Nat.le_refl _, Nat.le_add_right _ _⟩, ⟨Nat.le_refl _, Nat.le_add_right _ _⟩, fun o h' hE => ?_⟩
  refine ev_go (pc' := 410) (ls' := [some (vR (some 0)), some (vR (some 1)), some (vR (some 190)), some (vR (some 204)), some (vI ((i : Nat) : Int)), z5, z6, z7]) (st' := [vR (some 1)]) (h1 := HS t m) 1 (by rfl) ?_
  refine ev_call rfl rfl (Nat.le_of_ble_eq_true rfl) h1 ⟨Nat.le_refl _, Nat.le_refl _⟩ ?_
  show Ev (PP L xs) _ 141 413 [some (vR (some 0)), some (vR (some 1)), some (vR (some 190)), some (vR (some 204)), some (vI ((i : Nat) : Int)), z5, z6, z7] [vI v] (HS t m1) _ _
  refine ev_go (pc' := 414) (ls' := [some (vR (some 0)), some (vR (some 1)), some (vR (some 190)), some (vR (some 204)), some (vI ((i : Nat) : Int)), z5, z6, z7]) (st' := [vR (some 190), vI v]) (h1 := HS t m1) 1 (by rfl) ?_
  refine ev_call rfl rfl (Nat.le_of_ble_eq_true rfl) h2 ⟨Nat.le_refl _, Nat.le_refl _⟩ ?_
  show Ev (PP L xs) _ 141 417 [some (vR (some 0)), some (vR (some 1)), some (vR (some 190)), some (vR (some 204)), some (vI ((i : Nat) : Int)), z5, z6, z7] [vI v, vI v] (HS t m2) _ _
  refine ev_ic0 rfl hv hv (fun c417 => ?_) (fun c417 => absurd c417 (fun h => h rfl))
  exact hE
set_option maxRecDepth 10000 in
theorem lc_lock {L : Nat} {xs : Nat → Int32} {i : Nat} (hi : i + 3 ≤ L) : LCP L xs i 422 := by
  intro t m w k C D S z5 z6 z7 hA
  obtain ⟨kk, v, t2, mm, m2, w2, k2, C2, D2, S2, h1, h2, e0, hkI, e4, hv, hA2, hc, hs, hQ⟩ := op_lock (L := L) (xs := xs) (t := t) hA (c := (xs (i + 1)).toInt) (e := (xs (i + 2)).toInt) (xs_in _) (xs_in _)
  refine ⟨t2, m2, w2, k2, C2, D2, S2, some (vI kk), (some (vI v)), z7, hA2, hc, hs, fun o h' hE => ?_⟩
  refine ev_go (pc' := 428) (ls' := [some (vR (some 0)), some (vR (some 1)), some (vR (some 190)), some (vR (some 204)), some (vI ((i : Nat) : Int)), z5, z6, z7]) (st' := [vI ((i + 1 : Nat) : Int), vR (some 0), vR (some 1)]) (h1 := HS t m) 5 (by rfl) ?_
  refine ev_sld (k := (i + 1)) rfl rfl (by omega) ?_
  refine ev_go (pc' := 434) (ls' := [some (vR (some 0)), some (vR (some 1)), some (vR (some 190)), some (vR (some 204)), some (vI ((i : Nat) : Int)), z5, z6, z7]) (st' := [vI ((i + 2 : Nat) : Int), vR (some 0), vI (xs (i + 1)).toInt, vR (some 1)]) (h1 := HS t m) 4 (by rfl) ?_
  refine ev_sld (k := (i + 2)) rfl rfl (by omega) ?_
  refine ev_go (pc' := 436) (ls' := [some (vR (some 0)), some (vR (some 1)), some (vR (some 190)), some (vR (some 204)), some (vI ((i : Nat) : Int)), z5, z6, z7]) (st' := [vR (some 204), vI (xs (i + 2)).toInt, vI (xs (i + 1)).toInt, vR (some 1)]) (h1 := HS t m) 1 (by rfl) ?_
  refine ev_call rfl rfl (Nat.le_of_ble_eq_true rfl) h1 ⟨hc.1, hs.1⟩ ?_
  show Ev (PP L xs) _ 141 439 [some (vR (some 0)), some (vR (some 1)), some (vR (some 190)), some (vR (some 204)), some (vI ((i : Nat) : Int)), z5, z6, z7] [vI kk] (HS t2 mm) _ _
  refine ev_go (pc' := 447) (ls' := [some (vR (some 0)), some (vR (some 1)), some (vR (some 190)), some (vR (some 204)), some (vI ((i : Nat) : Int)), some (vI kk), z6, z7]) (st' := [vI ((i + 1 : Nat) : Int), vR (some 0), vR (some 190)]) (h1 := HS t2 mm) 6 (by rfl) ?_
  refine ev_sld (k := (i + 1)) rfl rfl (by omega) ?_
  refine ev_go (pc' := 453) (ls' := [some (vR (some 0)), some (vR (some 1)), some (vR (some 190)), some (vR (some 204)), some (vI ((i : Nat) : Int)), some (vI kk), z6, z7]) (st' := [vI ((i + 2 : Nat) : Int), vR (some 0), vI (xs (i + 1)).toInt, vR (some 190)]) (h1 := HS t2 mm) 4 (by rfl) ?_
  refine ev_sld (k := (i + 2)) rfl rfl (by omega) ?_
  refine ev_call rfl rfl (Nat.le_of_ble_eq_true rfl) h2 ⟨Nat.le_refl _, Nat.le_refl _⟩ ?_
  show Ev (PP L xs) _ 141 457 [some (vR (some 0)), some (vR (some 1)), some (vR (some 190)), some (vR (some 204)), some (vI ((i : Nat) : Int)), some (vI kk), z6, z7] [vI v] (HS t2 m2) _ _
  refine ev_go (pc' := 460) (ls' := [some (vR (some 0)), some (vR (some 1)), some (vR (some 190)), some (vR (some 204)), some (vI ((i : Nat) : Int)), some (vI kk), some (vI v), z7]) (st' := [vR (some 190)]) (h1 := HS t2 m2) 2 (by rfl) ?_
  have hth := m_thrown (L := L) (xs := xs) (d := 10) (t := t2) (m := m2)
  rw [e0] at hth
  refine ev_call rfl rfl (Nat.le_of_ble_eq_true rfl) hth ⟨Nat.le_refl _, Nat.le_refl _⟩ ?_
  show Ev (PP L xs) _ 141 463 [some (vR (some 0)), some (vR (some 1)), some (vR (some 190)), some (vR (some 204)), some (vI ((i : Nat) : Int)), some (vI kk), some (vI v), z7] [vI kk] (HS t2 m2) _ _
  refine ev_go (pc' := 465) (ls' := [some (vR (some 0)), some (vR (some 1)), some (vR (some 190)), some (vR (some 204)), some (vI ((i : Nat) : Int)), some (vI kk), some (vI v), z7]) (st' := [vI kk, vI kk]) (h1 := HS t2 m2) 1 (by rfl) ?_
  refine ev_ic0 rfl hkI hkI (fun c465 => ?_) (fun c465 => absurd c465 (fun h => h rfl))
  refine ev_go (pc' := 472) (ls' := [some (vR (some 0)), some (vR (some 1)), some (vR (some 190)), some (vR (some 204)), some (vI ((i : Nat) : Int)), some (vI kk), some (vI v), z7]) (st' := [vI kk]) (h1 := HS t2 m2) 1 (by rfl) ?_
  refine ev_if1 rfl hkI (fun c472 => ?_) (fun c472 => ?_)
  · refine ev_go (pc' := 998) (ls' := [some (vR (some 0)), some (vR (some 1)), some (vR (some 190)), some (vR (some 204)), some (vI ((i : Nat) : Int)), some (vI kk), some (vI v), z7]) (st' := []) (h1 := HS t2 m2) 1 (by rfl) ?_
    exact hE
  · refine ev_go (pc' := 477) (ls' := [some (vR (some 0)), some (vR (some 1)), some (vR (some 190)), some (vR (some 204)), some (vI ((i : Nat) : Int)), some (vI kk), some (vI v), z7]) (st' := [vI 0, vR (some 204)]) (h1 := HS t2 m2) 2 (by rfl) ?_
    refine ev_laldv (k := 0) (v := v) rfl rfl rfl (by omega) ((e4 (by assumption))) ?_
    refine ev_go (pc' := 480) (ls' := [some (vR (some 0)), some (vR (some 1)), some (vR (some 190)), some (vR (some 204)), some (vI ((i : Nat) : Int)), some (vI kk), some (vI v), z7]) (st' := [vI v, vJ v]) (h1 := HS t2 m2) 1 (by rfl) ?_
    refine ev_i2l rfl hv ?_
    refine ev_lcmp rfl (inJ_I hv) (inJ_I hv) ?_
    refine ev_if0 rfl (cmp_in _ _) (fun c482 => ?_) (fun c482 => absurd c482 (fun h => h (cmp_self v)))
    refine ev_go (pc' := 998) (ls' := [some (vR (some 0)), some (vR (some 1)), some (vR (some 190)), some (vR (some 204)), some (vI ((i : Nat) : Int)), some (vI kk), some (vI v), z7]) (st' := []) (h1 := HS t2 m2) 1 (by rfl) ?_
    exact hE
set_option maxRecDepth 10000 in
theorem lc_weight {L : Nat} {xs : Nat → Int32} {i : Nat} (hi : i + 3 ≤ L) : LCP L xs i 490 := by
  intro t m w k C D S z5 z6 z7 hA
  obtain ⟨kk, v, t2, mm, m2, w2, k2, C2, D2, S2, h1, h2, e0, hkI, e4, hv, hA2, hc, hs, hQ⟩ := op_weight (L := L) (xs := xs) (t := t) hA (c := (xs (i + 1)).toInt) (xs_in _)
  refine ⟨t2, m2, w2, k2, C2, D2, S2, some (vI kk), (some (vI v)), z7, hA2, hc, hs, fun o h' hE => ?_⟩
  refine ev_go (pc' := 496) (ls' := [some (vR (some 0)), some (vR (some 1)), some (vR (some 190)), some (vR (some 204)), some (vI ((i : Nat) : Int)), z5, z6, z7]) (st' := [vI ((i + 1 : Nat) : Int), vR (some 0), vR (some 1)]) (h1 := HS t m) 5 (by rfl) ?_
  refine ev_sld (k := (i + 1)) rfl rfl (by omega) ?_
  refine ev_go (pc' := 498) (ls' := [some (vR (some 0)), some (vR (some 1)), some (vR (some 190)), some (vR (some 204)), some (vI ((i : Nat) : Int)), z5, z6, z7]) (st' := [vR (some 204), vI (xs (i + 1)).toInt, vR (some 1)]) (h1 := HS t m) 1 (by rfl) ?_
  refine ev_call rfl rfl (Nat.le_of_ble_eq_true rfl) h1 ⟨hc.1, hs.1⟩ ?_
  show Ev (PP L xs) _ 141 501 [some (vR (some 0)), some (vR (some 1)), some (vR (some 190)), some (vR (some 204)), some (vI ((i : Nat) : Int)), z5, z6, z7] [vI kk] (HS t2 mm) _ _
  refine ev_go (pc' := 509) (ls' := [some (vR (some 0)), some (vR (some 1)), some (vR (some 190)), some (vR (some 204)), some (vI ((i : Nat) : Int)), some (vI kk), z6, z7]) (st' := [vI ((i + 1 : Nat) : Int), vR (some 0), vR (some 190)]) (h1 := HS t2 mm) 6 (by rfl) ?_
  refine ev_sld (k := (i + 1)) rfl rfl (by omega) ?_
  refine ev_call rfl rfl (Nat.le_of_ble_eq_true rfl) h2 ⟨Nat.le_refl _, Nat.le_refl _⟩ ?_
  show Ev (PP L xs) _ 141 513 [some (vR (some 0)), some (vR (some 1)), some (vR (some 190)), some (vR (some 204)), some (vI ((i : Nat) : Int)), some (vI kk), z6, z7] [vI v] (HS t2 m2) _ _
  refine ev_go (pc' := 516) (ls' := [some (vR (some 0)), some (vR (some 1)), some (vR (some 190)), some (vR (some 204)), some (vI ((i : Nat) : Int)), some (vI kk), some (vI v), z7]) (st' := [vR (some 190)]) (h1 := HS t2 m2) 2 (by rfl) ?_
  have hth := m_thrown (L := L) (xs := xs) (d := 10) (t := t2) (m := m2)
  rw [e0] at hth
  refine ev_call rfl rfl (Nat.le_of_ble_eq_true rfl) hth ⟨Nat.le_refl _, Nat.le_refl _⟩ ?_
  show Ev (PP L xs) _ 141 519 [some (vR (some 0)), some (vR (some 1)), some (vR (some 190)), some (vR (some 204)), some (vI ((i : Nat) : Int)), some (vI kk), some (vI v), z7] [vI kk] (HS t2 m2) _ _
  refine ev_go (pc' := 521) (ls' := [some (vR (some 0)), some (vR (some 1)), some (vR (some 190)), some (vR (some 204)), some (vI ((i : Nat) : Int)), some (vI kk), some (vI v), z7]) (st' := [vI kk, vI kk]) (h1 := HS t2 m2) 1 (by rfl) ?_
  refine ev_ic0 rfl hkI hkI (fun c521 => ?_) (fun c521 => absurd c521 (fun h => h rfl))
  refine ev_go (pc' := 528) (ls' := [some (vR (some 0)), some (vR (some 1)), some (vR (some 190)), some (vR (some 204)), some (vI ((i : Nat) : Int)), some (vI kk), some (vI v), z7]) (st' := [vI kk]) (h1 := HS t2 m2) 1 (by rfl) ?_
  refine ev_if1 rfl hkI (fun c528 => ?_) (fun c528 => ?_)
  · refine ev_go (pc' := 998) (ls' := [some (vR (some 0)), some (vR (some 1)), some (vR (some 190)), some (vR (some 204)), some (vI ((i : Nat) : Int)), some (vI kk), some (vI v), z7]) (st' := []) (h1 := HS t2 m2) 1 (by rfl) ?_
    exact hE
  · refine ev_go (pc' := 533) (ls' := [some (vR (some 0)), some (vR (some 1)), some (vR (some 190)), some (vR (some 204)), some (vI ((i : Nat) : Int)), some (vI kk), some (vI v), z7]) (st' := [vI 0, vR (some 204)]) (h1 := HS t2 m2) 2 (by rfl) ?_
    refine ev_laldv (k := 0) (v := v) rfl rfl rfl (by omega) ((e4 (by assumption))) ?_
    refine ev_go (pc' := 536) (ls' := [some (vR (some 0)), some (vR (some 1)), some (vR (some 190)), some (vR (some 204)), some (vI ((i : Nat) : Int)), some (vI kk), some (vI v), z7]) (st' := [vI v, vJ v]) (h1 := HS t2 m2) 1 (by rfl) ?_
    refine ev_i2l rfl hv ?_
    refine ev_lcmp rfl (inJ_I hv) (inJ_I hv) ?_
    refine ev_if0 rfl (cmp_in _ _) (fun c538 => ?_) (fun c538 => absurd c538 (fun h => h (cmp_self v)))
    refine ev_go (pc' := 998) (ls' := [some (vR (some 0)), some (vR (some 1)), some (vR (some 190)), some (vR (some 204)), some (vI ((i : Nat) : Int)), some (vI kk), some (vI v), z7]) (st' := []) (h1 := HS t2 m2) 1 (by rfl) ?_
    exact hE
set_option maxRecDepth 10000 in
theorem lc_step {L : Nat} {xs : Nat → Int32} {i : Nat} (hi : i + 3 ≤ L) : LCP L xs i 546 := by
  intro t m w k C D S z5 z6 z7 hA
  obtain ⟨kk, v, t2, mm, m2, w2, k2, C2, D2, S2, h1, h2, e0, hkI, e4, hv, hA2, hc, hs, hQ⟩ := op_step (L := L) (xs := xs) (t := t) hA (c := (xs (i + 1)).toInt) (e := (xs (i + 2)).toInt) (xs_in _) (xs_in _)
  refine ⟨t2, m2, w2, k2, C2, D2, S2, some (vI kk), (some (vI v)), z7, hA2, hc, hs, fun o h' hE => ?_⟩
  refine ev_go (pc' := 552) (ls' := [some (vR (some 0)), some (vR (some 1)), some (vR (some 190)), some (vR (some 204)), some (vI ((i : Nat) : Int)), z5, z6, z7]) (st' := [vI ((i + 1 : Nat) : Int), vR (some 0), vR (some 1)]) (h1 := HS t m) 5 (by rfl) ?_
  refine ev_sld (k := (i + 1)) rfl rfl (by omega) ?_
  refine ev_go (pc' := 558) (ls' := [some (vR (some 0)), some (vR (some 1)), some (vR (some 190)), some (vR (some 204)), some (vI ((i : Nat) : Int)), z5, z6, z7]) (st' := [vI ((i + 2 : Nat) : Int), vR (some 0), vI (xs (i + 1)).toInt, vR (some 1)]) (h1 := HS t m) 4 (by rfl) ?_
  refine ev_sld (k := (i + 2)) rfl rfl (by omega) ?_
  refine ev_go (pc' := 560) (ls' := [some (vR (some 0)), some (vR (some 1)), some (vR (some 190)), some (vR (some 204)), some (vI ((i : Nat) : Int)), z5, z6, z7]) (st' := [vR (some 204), vI (xs (i + 2)).toInt, vI (xs (i + 1)).toInt, vR (some 1)]) (h1 := HS t m) 1 (by rfl) ?_
  refine ev_call rfl rfl (Nat.le_of_ble_eq_true rfl) h1 ⟨hc.1, hs.1⟩ ?_
  show Ev (PP L xs) _ 141 563 [some (vR (some 0)), some (vR (some 1)), some (vR (some 190)), some (vR (some 204)), some (vI ((i : Nat) : Int)), z5, z6, z7] [vI kk] (HS t2 mm) _ _
  refine ev_go (pc' := 571) (ls' := [some (vR (some 0)), some (vR (some 1)), some (vR (some 190)), some (vR (some 204)), some (vI ((i : Nat) : Int)), some (vI kk), z6, z7]) (st' := [vI ((i + 1 : Nat) : Int), vR (some 0), vR (some 190)]) (h1 := HS t2 mm) 6 (by rfl) ?_
  refine ev_sld (k := (i + 1)) rfl rfl (by omega) ?_
  refine ev_go (pc' := 577) (ls' := [some (vR (some 0)), some (vR (some 1)), some (vR (some 190)), some (vR (some 204)), some (vI ((i : Nat) : Int)), some (vI kk), z6, z7]) (st' := [vI ((i + 2 : Nat) : Int), vR (some 0), vI (xs (i + 1)).toInt, vR (some 190)]) (h1 := HS t2 mm) 4 (by rfl) ?_
  refine ev_sld (k := (i + 2)) rfl rfl (by omega) ?_
  refine ev_call rfl rfl (Nat.le_of_ble_eq_true rfl) h2 ⟨Nat.le_refl _, Nat.le_refl _⟩ ?_
  show Ev (PP L xs) _ 141 581 [some (vR (some 0)), some (vR (some 1)), some (vR (some 190)), some (vR (some 204)), some (vI ((i : Nat) : Int)), some (vI kk), z6, z7] [vI v] (HS t2 m2) _ _
  refine ev_go (pc' := 584) (ls' := [some (vR (some 0)), some (vR (some 1)), some (vR (some 190)), some (vR (some 204)), some (vI ((i : Nat) : Int)), some (vI kk), some (vI v), z7]) (st' := [vR (some 190)]) (h1 := HS t2 m2) 2 (by rfl) ?_
  have hth := m_thrown (L := L) (xs := xs) (d := 10) (t := t2) (m := m2)
  rw [e0] at hth
  refine ev_call rfl rfl (Nat.le_of_ble_eq_true rfl) hth ⟨Nat.le_refl _, Nat.le_refl _⟩ ?_
  show Ev (PP L xs) _ 141 587 [some (vR (some 0)), some (vR (some 1)), some (vR (some 190)), some (vR (some 204)), some (vI ((i : Nat) : Int)), some (vI kk), some (vI v), z7] [vI kk] (HS t2 m2) _ _
  refine ev_go (pc' := 589) (ls' := [some (vR (some 0)), some (vR (some 1)), some (vR (some 190)), some (vR (some 204)), some (vI ((i : Nat) : Int)), some (vI kk), some (vI v), z7]) (st' := [vI kk, vI kk]) (h1 := HS t2 m2) 1 (by rfl) ?_
  refine ev_ic0 rfl hkI hkI (fun c589 => ?_) (fun c589 => absurd c589 (fun h => h rfl))
  refine ev_go (pc' := 596) (ls' := [some (vR (some 0)), some (vR (some 1)), some (vR (some 190)), some (vR (some 204)), some (vI ((i : Nat) : Int)), some (vI kk), some (vI v), z7]) (st' := [vI kk]) (h1 := HS t2 m2) 1 (by rfl) ?_
  refine ev_if1 rfl hkI (fun c596 => ?_) (fun c596 => ?_)
  · refine ev_go (pc' := 998) (ls' := [some (vR (some 0)), some (vR (some 1)), some (vR (some 190)), some (vR (some 204)), some (vI ((i : Nat) : Int)), some (vI kk), some (vI v), z7]) (st' := []) (h1 := HS t2 m2) 1 (by rfl) ?_
    exact hE
  · refine ev_go (pc' := 601) (ls' := [some (vR (some 0)), some (vR (some 1)), some (vR (some 190)), some (vR (some 204)), some (vI ((i : Nat) : Int)), some (vI kk), some (vI v), z7]) (st' := [vI 0, vR (some 204)]) (h1 := HS t2 m2) 2 (by rfl) ?_
    refine ev_laldv (k := 0) (v := v) rfl rfl rfl (by omega) ((e4 (by assumption))) ?_
    refine ev_go (pc' := 604) (ls' := [some (vR (some 0)), some (vR (some 1)), some (vR (some 190)), some (vR (some 204)), some (vI ((i : Nat) : Int)), some (vI kk), some (vI v), z7]) (st' := [vI v, vJ v]) (h1 := HS t2 m2) 1 (by rfl) ?_
    refine ev_i2l rfl hv ?_
    refine ev_lcmp rfl (inJ_I hv) (inJ_I hv) ?_
    refine ev_if0 rfl (cmp_in _ _) (fun c606 => ?_) (fun c606 => absurd c606 (fun h => h (cmp_self v)))
    refine ev_go (pc' := 998) (ls' := [some (vR (some 0)), some (vR (some 1)), some (vR (some 190)), some (vR (some 204)), some (vI ((i : Nat) : Int)), some (vI kk), some (vI v), z7]) (st' := []) (h1 := HS t2 m2) 1 (by rfl) ?_
    exact hE
set_option maxRecDepth 10000 in
theorem lc_path {L : Nat} {xs : Nat → Int32} {i : Nat} (hi : i + 3 ≤ L) : LCP L xs i 614 := by
  intro t m w k C D S z5 z6 z7 hA
  obtain ⟨kk, v, t2, mm, m2, w2, k2, C2, D2, S2, h1, h2, e0, hkI, e4, hv, hA2, hc, hs, hQ⟩ := op_path (L := L) (xs := xs) (t := t) hA (c := (xs (i + 1)).toInt) (e := (xs (i + 2)).toInt) (xs_in _) (xs_in _)
  refine ⟨t2, m2, w2, k2, C2, D2, S2, some (vI kk), (some (vI v)), z7, hA2, hc, hs, fun o h' hE => ?_⟩
  refine ev_go (pc' := 620) (ls' := [some (vR (some 0)), some (vR (some 1)), some (vR (some 190)), some (vR (some 204)), some (vI ((i : Nat) : Int)), z5, z6, z7]) (st' := [vI ((i + 1 : Nat) : Int), vR (some 0), vR (some 1)]) (h1 := HS t m) 5 (by rfl) ?_
  refine ev_sld (k := (i + 1)) rfl rfl (by omega) ?_
  refine ev_go (pc' := 626) (ls' := [some (vR (some 0)), some (vR (some 1)), some (vR (some 190)), some (vR (some 204)), some (vI ((i : Nat) : Int)), z5, z6, z7]) (st' := [vI ((i + 2 : Nat) : Int), vR (some 0), vI (xs (i + 1)).toInt, vR (some 1)]) (h1 := HS t m) 4 (by rfl) ?_
  refine ev_sld (k := (i + 2)) rfl rfl (by omega) ?_
  refine ev_go (pc' := 628) (ls' := [some (vR (some 0)), some (vR (some 1)), some (vR (some 190)), some (vR (some 204)), some (vI ((i : Nat) : Int)), z5, z6, z7]) (st' := [vR (some 204), vI (xs (i + 2)).toInt, vI (xs (i + 1)).toInt, vR (some 1)]) (h1 := HS t m) 1 (by rfl) ?_
  refine ev_call rfl rfl (Nat.le_of_ble_eq_true rfl) h1 ⟨hc.1, hs.1⟩ ?_
  show Ev (PP L xs) _ 141 631 [some (vR (some 0)), some (vR (some 1)), some (vR (some 190)), some (vR (some 204)), some (vI ((i : Nat) : Int)), z5, z6, z7] [vI kk] (HS t2 mm) _ _
  refine ev_go (pc' := 639) (ls' := [some (vR (some 0)), some (vR (some 1)), some (vR (some 190)), some (vR (some 204)), some (vI ((i : Nat) : Int)), some (vI kk), z6, z7]) (st' := [vI ((i + 1 : Nat) : Int), vR (some 0), vR (some 190)]) (h1 := HS t2 mm) 6 (by rfl) ?_
  refine ev_sld (k := (i + 1)) rfl rfl (by omega) ?_
  refine ev_go (pc' := 645) (ls' := [some (vR (some 0)), some (vR (some 1)), some (vR (some 190)), some (vR (some 204)), some (vI ((i : Nat) : Int)), some (vI kk), z6, z7]) (st' := [vI ((i + 2 : Nat) : Int), vR (some 0), vI (xs (i + 1)).toInt, vR (some 190)]) (h1 := HS t2 mm) 4 (by rfl) ?_
  refine ev_sld (k := (i + 2)) rfl rfl (by omega) ?_
  refine ev_call rfl rfl (Nat.le_of_ble_eq_true rfl) h2 ⟨Nat.le_refl _, Nat.le_refl _⟩ ?_
  show Ev (PP L xs) _ 141 649 [some (vR (some 0)), some (vR (some 1)), some (vR (some 190)), some (vR (some 204)), some (vI ((i : Nat) : Int)), some (vI kk), z6, z7] [vI v] (HS t2 m2) _ _
  refine ev_go (pc' := 652) (ls' := [some (vR (some 0)), some (vR (some 1)), some (vR (some 190)), some (vR (some 204)), some (vI ((i : Nat) : Int)), some (vI kk), some (vI v), z7]) (st' := [vR (some 190)]) (h1 := HS t2 m2) 2 (by rfl) ?_
  have hth := m_thrown (L := L) (xs := xs) (d := 10) (t := t2) (m := m2)
  rw [e0] at hth
  refine ev_call rfl rfl (Nat.le_of_ble_eq_true rfl) hth ⟨Nat.le_refl _, Nat.le_refl _⟩ ?_
  show Ev (PP L xs) _ 141 655 [some (vR (some 0)), some (vR (some 1)), some (vR (some 190)), some (vR (some 204)), some (vI ((i : Nat) : Int)), some (vI kk), some (vI v), z7] [vI kk] (HS t2 m2) _ _
  refine ev_go (pc' := 657) (ls' := [some (vR (some 0)), some (vR (some 1)), some (vR (some 190)), some (vR (some 204)), some (vI ((i : Nat) : Int)), some (vI kk), some (vI v), z7]) (st' := [vI kk, vI kk]) (h1 := HS t2 m2) 1 (by rfl) ?_
  refine ev_ic0 rfl hkI hkI (fun c657 => ?_) (fun c657 => absurd c657 (fun h => h rfl))
  refine ev_go (pc' := 664) (ls' := [some (vR (some 0)), some (vR (some 1)), some (vR (some 190)), some (vR (some 204)), some (vI ((i : Nat) : Int)), some (vI kk), some (vI v), z7]) (st' := [vI kk]) (h1 := HS t2 m2) 1 (by rfl) ?_
  refine ev_if1 rfl hkI (fun c664 => ?_) (fun c664 => ?_)
  · refine ev_go (pc' := 998) (ls' := [some (vR (some 0)), some (vR (some 1)), some (vR (some 190)), some (vR (some 204)), some (vI ((i : Nat) : Int)), some (vI kk), some (vI v), z7]) (st' := []) (h1 := HS t2 m2) 1 (by rfl) ?_
    exact hE
  · refine ev_go (pc' := 669) (ls' := [some (vR (some 0)), some (vR (some 1)), some (vR (some 190)), some (vR (some 204)), some (vI ((i : Nat) : Int)), some (vI kk), some (vI v), z7]) (st' := [vI 0, vR (some 204)]) (h1 := HS t2 m2) 2 (by rfl) ?_
    refine ev_laldv (k := 0) (v := v) rfl rfl rfl (by omega) ((e4 (by assumption))) ?_
    refine ev_go (pc' := 672) (ls' := [some (vR (some 0)), some (vR (some 1)), some (vR (some 190)), some (vR (some 204)), some (vI ((i : Nat) : Int)), some (vI kk), some (vI v), z7]) (st' := [vI v, vJ v]) (h1 := HS t2 m2) 1 (by rfl) ?_
    refine ev_i2l rfl hv ?_
    refine ev_lcmp rfl (inJ_I hv) (inJ_I hv) ?_
    refine ev_if0 rfl (cmp_in _ _) (fun c674 => ?_) (fun c674 => absurd c674 (fun h => h (cmp_self v)))
    refine ev_go (pc' := 998) (ls' := [some (vR (some 0)), some (vR (some 1)), some (vR (some 190)), some (vR (some 204)), some (vI ((i : Nat) : Int)), some (vI kk), some (vI v), z7]) (st' := []) (h1 := HS t2 m2) 1 (by rfl) ?_
    exact hE
set_option maxRecDepth 10000 in
theorem lc_pathAnew {L : Nat} {xs : Nat → Int32} {i : Nat} (hi : i + 3 ≤ L) : LCP L xs i 682 := by
  intro t m w k C D S z5 z6 z7 hA
  obtain ⟨kk, v, t2, mm, m2, w2, k2, C2, D2, S2, h1, h2, e0, hkI, e4, hv, hA2, hc, hs, hQ⟩ := op_pathAnew (L := L) (xs := xs) (t := t) hA (c := (xs (i + 1)).toInt) (e := (xs (i + 2)).toInt) (xs_in _) (xs_in _)
  refine ⟨t2, m2, w2, k2, C2, D2, S2, some (vI kk), (some (vI v)), z7, hA2, hc, hs, fun o h' hE => ?_⟩
  refine ev_go (pc' := 688) (ls' := [some (vR (some 0)), some (vR (some 1)), some (vR (some 190)), some (vR (some 204)), some (vI ((i : Nat) : Int)), z5, z6, z7]) (st' := [vI ((i + 1 : Nat) : Int), vR (some 0), vR (some 1)]) (h1 := HS t m) 5 (by rfl) ?_
  refine ev_sld (k := (i + 1)) rfl rfl (by omega) ?_
  refine ev_go (pc' := 694) (ls' := [some (vR (some 0)), some (vR (some 1)), some (vR (some 190)), some (vR (some 204)), some (vI ((i : Nat) : Int)), z5, z6, z7]) (st' := [vI ((i + 2 : Nat) : Int), vR (some 0), vI (xs (i + 1)).toInt, vR (some 1)]) (h1 := HS t m) 4 (by rfl) ?_
  refine ev_sld (k := (i + 2)) rfl rfl (by omega) ?_
  refine ev_go (pc' := 696) (ls' := [some (vR (some 0)), some (vR (some 1)), some (vR (some 190)), some (vR (some 204)), some (vI ((i : Nat) : Int)), z5, z6, z7]) (st' := [vR (some 204), vI (xs (i + 2)).toInt, vI (xs (i + 1)).toInt, vR (some 1)]) (h1 := HS t m) 1 (by rfl) ?_
  refine ev_call rfl rfl (Nat.le_of_ble_eq_true rfl) h1 ⟨hc.1, hs.1⟩ ?_
  show Ev (PP L xs) _ 141 699 [some (vR (some 0)), some (vR (some 1)), some (vR (some 190)), some (vR (some 204)), some (vI ((i : Nat) : Int)), z5, z6, z7] [vI kk] (HS t2 mm) _ _
  refine ev_go (pc' := 707) (ls' := [some (vR (some 0)), some (vR (some 1)), some (vR (some 190)), some (vR (some 204)), some (vI ((i : Nat) : Int)), some (vI kk), z6, z7]) (st' := [vI ((i + 1 : Nat) : Int), vR (some 0), vR (some 190)]) (h1 := HS t2 mm) 6 (by rfl) ?_
  refine ev_sld (k := (i + 1)) rfl rfl (by omega) ?_
  refine ev_go (pc' := 713) (ls' := [some (vR (some 0)), some (vR (some 1)), some (vR (some 190)), some (vR (some 204)), some (vI ((i : Nat) : Int)), some (vI kk), z6, z7]) (st' := [vI ((i + 2 : Nat) : Int), vR (some 0), vI (xs (i + 1)).toInt, vR (some 190)]) (h1 := HS t2 mm) 4 (by rfl) ?_
  refine ev_sld (k := (i + 2)) rfl rfl (by omega) ?_
  refine ev_call rfl rfl (Nat.le_of_ble_eq_true rfl) h2 ⟨Nat.le_refl _, Nat.le_refl _⟩ ?_
  show Ev (PP L xs) _ 141 717 [some (vR (some 0)), some (vR (some 1)), some (vR (some 190)), some (vR (some 204)), some (vI ((i : Nat) : Int)), some (vI kk), z6, z7] [vI v] (HS t2 m2) _ _
  refine ev_go (pc' := 720) (ls' := [some (vR (some 0)), some (vR (some 1)), some (vR (some 190)), some (vR (some 204)), some (vI ((i : Nat) : Int)), some (vI kk), some (vI v), z7]) (st' := [vR (some 190)]) (h1 := HS t2 m2) 2 (by rfl) ?_
  have hth := m_thrown (L := L) (xs := xs) (d := 10) (t := t2) (m := m2)
  rw [e0] at hth
  refine ev_call rfl rfl (Nat.le_of_ble_eq_true rfl) hth ⟨Nat.le_refl _, Nat.le_refl _⟩ ?_
  show Ev (PP L xs) _ 141 723 [some (vR (some 0)), some (vR (some 1)), some (vR (some 190)), some (vR (some 204)), some (vI ((i : Nat) : Int)), some (vI kk), some (vI v), z7] [vI kk] (HS t2 m2) _ _
  refine ev_go (pc' := 725) (ls' := [some (vR (some 0)), some (vR (some 1)), some (vR (some 190)), some (vR (some 204)), some (vI ((i : Nat) : Int)), some (vI kk), some (vI v), z7]) (st' := [vI kk, vI kk]) (h1 := HS t2 m2) 1 (by rfl) ?_
  refine ev_ic0 rfl hkI hkI (fun c725 => ?_) (fun c725 => absurd c725 (fun h => h rfl))
  refine ev_go (pc' := 732) (ls' := [some (vR (some 0)), some (vR (some 1)), some (vR (some 190)), some (vR (some 204)), some (vI ((i : Nat) : Int)), some (vI kk), some (vI v), z7]) (st' := [vI kk]) (h1 := HS t2 m2) 1 (by rfl) ?_
  refine ev_if1 rfl hkI (fun c732 => ?_) (fun c732 => ?_)
  · refine ev_go (pc' := 998) (ls' := [some (vR (some 0)), some (vR (some 1)), some (vR (some 190)), some (vR (some 204)), some (vI ((i : Nat) : Int)), some (vI kk), some (vI v), z7]) (st' := []) (h1 := HS t2 m2) 1 (by rfl) ?_
    exact hE
  · refine ev_go (pc' := 737) (ls' := [some (vR (some 0)), some (vR (some 1)), some (vR (some 190)), some (vR (some 204)), some (vI ((i : Nat) : Int)), some (vI kk), some (vI v), z7]) (st' := [vI 0, vR (some 204)]) (h1 := HS t2 m2) 2 (by rfl) ?_
    refine ev_laldv (k := 0) (v := v) rfl rfl rfl (by omega) ((e4 (by assumption))) ?_
    refine ev_go (pc' := 740) (ls' := [some (vR (some 0)), some (vR (some 1)), some (vR (some 190)), some (vR (some 204)), some (vI ((i : Nat) : Int)), some (vI kk), some (vI v), z7]) (st' := [vI v, vJ v]) (h1 := HS t2 m2) 1 (by rfl) ?_
    refine ev_i2l rfl hv ?_
    refine ev_lcmp rfl (inJ_I hv) (inJ_I hv) ?_
    refine ev_if0 rfl (cmp_in _ _) (fun c742 => ?_) (fun c742 => absurd c742 (fun h => h (cmp_self v)))
    refine ev_go (pc' := 998) (ls' := [some (vR (some 0)), some (vR (some 1)), some (vR (some 190)), some (vR (some 204)), some (vI ((i : Nat) : Int)), some (vI kk), some (vI v), z7]) (st' := []) (h1 := HS t2 m2) 1 (by rfl) ?_
    exact hE
set_option maxRecDepth 10000 in
theorem lc_product {L : Nat} {xs : Nat → Int32} {i : Nat} (hi : i + 3 ≤ L) : LCP L xs i 750 := by
  intro t m w k C D S z5 z6 z7 hA
  obtain ⟨kk, v, t2, mm, m2, w2, k2, C2, D2, S2, h1, h2, e0, hkI, e4, hv, hA2, hc, hs, hQ⟩ := op_product (L := L) (xs := xs) (t := t) hA (c := (xs (i + 1)).toInt) (xs_in _)
  refine ⟨t2, m2, w2, k2, C2, D2, S2, some (vI kk), (some (vJ v)), none, hA2, hc, hs, fun o h' hE => ?_⟩
  refine ev_go (pc' := 756) (ls' := [some (vR (some 0)), some (vR (some 1)), some (vR (some 190)), some (vR (some 204)), some (vI ((i : Nat) : Int)), z5, z6, z7]) (st' := [vI ((i + 1 : Nat) : Int), vR (some 0), vR (some 1)]) (h1 := HS t m) 5 (by rfl) ?_
  refine ev_sld (k := (i + 1)) rfl rfl (by omega) ?_
  refine ev_go (pc' := 758) (ls' := [some (vR (some 0)), some (vR (some 1)), some (vR (some 190)), some (vR (some 204)), some (vI ((i : Nat) : Int)), z5, z6, z7]) (st' := [vR (some 204), vI (xs (i + 1)).toInt, vR (some 1)]) (h1 := HS t m) 1 (by rfl) ?_
  refine ev_call rfl rfl (Nat.le_of_ble_eq_true rfl) h1 ⟨hc.1, hs.1⟩ ?_
  show Ev (PP L xs) _ 141 761 [some (vR (some 0)), some (vR (some 1)), some (vR (some 190)), some (vR (some 204)), some (vI ((i : Nat) : Int)), z5, z6, z7] [vI kk] (HS t2 mm) _ _
  refine ev_go (pc' := 769) (ls' := [some (vR (some 0)), some (vR (some 1)), some (vR (some 190)), some (vR (some 204)), some (vI ((i : Nat) : Int)), some (vI kk), z6, z7]) (st' := [vI ((i + 1 : Nat) : Int), vR (some 0), vR (some 190)]) (h1 := HS t2 mm) 6 (by rfl) ?_
  refine ev_sld (k := (i + 1)) rfl rfl (by omega) ?_
  refine ev_call rfl rfl (Nat.le_of_ble_eq_true rfl) h2 ⟨Nat.le_refl _, Nat.le_refl _⟩ ?_
  show Ev (PP L xs) _ 141 773 [some (vR (some 0)), some (vR (some 1)), some (vR (some 190)), some (vR (some 204)), some (vI ((i : Nat) : Int)), some (vI kk), z6, z7] [vJ v] (HS t2 m2) _ _
  refine ev_go (pc' := 776) (ls' := [some (vR (some 0)), some (vR (some 1)), some (vR (some 190)), some (vR (some 204)), some (vI ((i : Nat) : Int)), some (vI kk), some (vJ v), none]) (st' := [vR (some 190)]) (h1 := HS t2 m2) 2 (by rfl) ?_
  have hth := m_thrown (L := L) (xs := xs) (d := 10) (t := t2) (m := m2)
  rw [e0] at hth
  refine ev_call rfl rfl (Nat.le_of_ble_eq_true rfl) hth ⟨Nat.le_refl _, Nat.le_refl _⟩ ?_
  show Ev (PP L xs) _ 141 779 [some (vR (some 0)), some (vR (some 1)), some (vR (some 190)), some (vR (some 204)), some (vI ((i : Nat) : Int)), some (vI kk), some (vJ v), none] [vI kk] (HS t2 m2) _ _
  refine ev_go (pc' := 781) (ls' := [some (vR (some 0)), some (vR (some 1)), some (vR (some 190)), some (vR (some 204)), some (vI ((i : Nat) : Int)), some (vI kk), some (vJ v), none]) (st' := [vI kk, vI kk]) (h1 := HS t2 m2) 1 (by rfl) ?_
  refine ev_ic0 rfl hkI hkI (fun c781 => ?_) (fun c781 => absurd c781 (fun h => h rfl))
  refine ev_go (pc' := 788) (ls' := [some (vR (some 0)), some (vR (some 1)), some (vR (some 190)), some (vR (some 204)), some (vI ((i : Nat) : Int)), some (vI kk), some (vJ v), none]) (st' := [vI kk]) (h1 := HS t2 m2) 1 (by rfl) ?_
  refine ev_if1 rfl hkI (fun c788 => ?_) (fun c788 => ?_)
  · refine ev_go (pc' := 998) (ls' := [some (vR (some 0)), some (vR (some 1)), some (vR (some 190)), some (vR (some 204)), some (vI ((i : Nat) : Int)), some (vI kk), some (vJ v), none]) (st' := []) (h1 := HS t2 m2) 1 (by rfl) ?_
    exact hE
  · refine ev_go (pc' := 793) (ls' := [some (vR (some 0)), some (vR (some 1)), some (vR (some 190)), some (vR (some 204)), some (vI ((i : Nat) : Int)), some (vI kk), some (vJ v), none]) (st' := [vI 0, vR (some 204)]) (h1 := HS t2 m2) 2 (by rfl) ?_
    refine ev_laldv (k := 0) (v := v) rfl rfl rfl (by omega) ((e4 (by assumption))) ?_
    refine ev_go (pc' := 796) (ls' := [some (vR (some 0)), some (vR (some 1)), some (vR (some 190)), some (vR (some 204)), some (vI ((i : Nat) : Int)), some (vI kk), some (vJ v), none]) (st' := [vJ v, vJ v]) (h1 := HS t2 m2) 1 (by rfl) ?_
    refine ev_lcmp rfl (inJ_I hv) (inJ_I hv) ?_
    refine ev_if0 rfl (cmp_in _ _) (fun c797 => ?_) (fun c797 => absurd c797 (fun h => h (cmp_self v)))
    refine ev_go (pc' := 998) (ls' := [some (vR (some 0)), some (vR (some 1)), some (vR (some 190)), some (vR (some 204)), some (vI ((i : Nat) : Int)), some (vI kk), some (vJ v), none]) (st' := []) (h1 := HS t2 m2) 1 (by rfl) ?_
    exact hE
set_option maxRecDepth 10000 in
theorem lc_cost {L : Nat} {xs : Nat → Int32} {i : Nat} (hi : i + 3 ≤ L) : LCP L xs i 805 := by
  intro t m w k C D S z5 z6 z7 hA
  obtain ⟨kk, v, t2, mm, m2, w2, k2, C2, D2, S2, h1, h2, e0, hkI, e4, hv, hA2, hc, hs, hQ⟩ := op_cost (L := L) (xs := xs) (t := t) hA 
  refine ⟨t2, m2, w2, k2, C2, D2, S2, some (vI kk), (some (vI v)), z7, hA2, hc, hs, fun o h' hE => ?_⟩
  refine ev_go (pc' := 807) (ls' := [some (vR (some 0)), some (vR (some 1)), some (vR (some 190)), some (vR (some 204)), some (vI ((i : Nat) : Int)), z5, z6, z7]) (st' := [vR (some 204), vR (some 1)]) (h1 := HS t m) 2 (by rfl) ?_
  refine ev_call rfl rfl (Nat.le_of_ble_eq_true rfl) h1 ⟨hc.1, hs.1⟩ ?_
  show Ev (PP L xs) _ 141 810 [some (vR (some 0)), some (vR (some 1)), some (vR (some 190)), some (vR (some 204)), some (vI ((i : Nat) : Int)), z5, z6, z7] [vI kk] (HS t2 mm) _ _
  refine ev_go (pc' := 813) (ls' := [some (vR (some 0)), some (vR (some 1)), some (vR (some 190)), some (vR (some 204)), some (vI ((i : Nat) : Int)), some (vI kk), z6, z7]) (st' := [vR (some 190)]) (h1 := HS t2 mm) 2 (by rfl) ?_
  refine ev_call rfl rfl (Nat.le_of_ble_eq_true rfl) h2 ⟨Nat.le_refl _, Nat.le_refl _⟩ ?_
  show Ev (PP L xs) _ 141 816 [some (vR (some 0)), some (vR (some 1)), some (vR (some 190)), some (vR (some 204)), some (vI ((i : Nat) : Int)), some (vI kk), z6, z7] [vI v] (HS t2 m2) _ _
  refine ev_go (pc' := 819) (ls' := [some (vR (some 0)), some (vR (some 1)), some (vR (some 190)), some (vR (some 204)), some (vI ((i : Nat) : Int)), some (vI kk), some (vI v), z7]) (st' := [vR (some 190)]) (h1 := HS t2 m2) 2 (by rfl) ?_
  have hth := m_thrown (L := L) (xs := xs) (d := 10) (t := t2) (m := m2)
  rw [e0] at hth
  refine ev_call rfl rfl (Nat.le_of_ble_eq_true rfl) hth ⟨Nat.le_refl _, Nat.le_refl _⟩ ?_
  show Ev (PP L xs) _ 141 822 [some (vR (some 0)), some (vR (some 1)), some (vR (some 190)), some (vR (some 204)), some (vI ((i : Nat) : Int)), some (vI kk), some (vI v), z7] [vI kk] (HS t2 m2) _ _
  refine ev_go (pc' := 824) (ls' := [some (vR (some 0)), some (vR (some 1)), some (vR (some 190)), some (vR (some 204)), some (vI ((i : Nat) : Int)), some (vI kk), some (vI v), z7]) (st' := [vI kk, vI kk]) (h1 := HS t2 m2) 1 (by rfl) ?_
  refine ev_ic0 rfl hkI hkI (fun c824 => ?_) (fun c824 => absurd c824 (fun h => h rfl))
  refine ev_go (pc' := 831) (ls' := [some (vR (some 0)), some (vR (some 1)), some (vR (some 190)), some (vR (some 204)), some (vI ((i : Nat) : Int)), some (vI kk), some (vI v), z7]) (st' := [vI kk]) (h1 := HS t2 m2) 1 (by rfl) ?_
  refine ev_if1 rfl hkI (fun c831 => ?_) (fun c831 => ?_)
  · refine ev_go (pc' := 998) (ls' := [some (vR (some 0)), some (vR (some 1)), some (vR (some 190)), some (vR (some 204)), some (vI ((i : Nat) : Int)), some (vI kk), some (vI v), z7]) (st' := []) (h1 := HS t2 m2) 1 (by rfl) ?_
    exact hE
  · refine ev_go (pc' := 836) (ls' := [some (vR (some 0)), some (vR (some 1)), some (vR (some 190)), some (vR (some 204)), some (vI ((i : Nat) : Int)), some (vI kk), some (vI v), z7]) (st' := [vI 0, vR (some 204)]) (h1 := HS t2 m2) 2 (by rfl) ?_
    refine ev_laldv (k := 0) (v := v) rfl rfl rfl (by omega) ((e4 (by assumption))) ?_
    refine ev_go (pc' := 839) (ls' := [some (vR (some 0)), some (vR (some 1)), some (vR (some 190)), some (vR (some 204)), some (vI ((i : Nat) : Int)), some (vI kk), some (vI v), z7]) (st' := [vI v, vJ v]) (h1 := HS t2 m2) 1 (by rfl) ?_
    refine ev_i2l rfl hv ?_
    refine ev_lcmp rfl (inJ_I hv) (inJ_I hv) ?_
    refine ev_if0 rfl (cmp_in _ _) (fun c841 => ?_) (fun c841 => absurd c841 (fun h => h (cmp_self v)))
    refine ev_go (pc' := 998) (ls' := [some (vR (some 0)), some (vR (some 1)), some (vR (some 190)), some (vR (some 204)), some (vI ((i : Nat) : Int)), some (vI kk), some (vI v), z7]) (st' := []) (h1 := HS t2 m2) 1 (by rfl) ?_
    exact hE
set_option maxRecDepth 10000 in
theorem lc_share {L : Nat} {xs : Nat → Int32} {i : Nat} (hi : i + 3 ≤ L) : LCP L xs i 849 := by
  intro t m w k C D S z5 z6 z7 hA
  obtain ⟨kk, v, t2, mm, m2, w2, k2, C2, D2, S2, h1, h2, e0, hkI, e4, hv, hA2, hc, hs, hQ⟩ := op_share (L := L) (xs := xs) (t := t) hA (c := (xs (i + 1)).toInt) (e := (xs (i + 2)).toInt) (xs_in _) (xs_in _)
  refine ⟨t2, m2, w2, k2, C2, D2, S2, some (vI kk), (some (vI v)), z7, hA2, hc, hs, fun o h' hE => ?_⟩
  refine ev_go (pc' := 855) (ls' := [some (vR (some 0)), some (vR (some 1)), some (vR (some 190)), some (vR (some 204)), some (vI ((i : Nat) : Int)), z5, z6, z7]) (st' := [vI ((i + 1 : Nat) : Int), vR (some 0), vR (some 1)]) (h1 := HS t m) 5 (by rfl) ?_
  refine ev_sld (k := (i + 1)) rfl rfl (by omega) ?_
  refine ev_go (pc' := 861) (ls' := [some (vR (some 0)), some (vR (some 1)), some (vR (some 190)), some (vR (some 204)), some (vI ((i : Nat) : Int)), z5, z6, z7]) (st' := [vI ((i + 2 : Nat) : Int), vR (some 0), vI (xs (i + 1)).toInt, vR (some 1)]) (h1 := HS t m) 4 (by rfl) ?_
  refine ev_sld (k := (i + 2)) rfl rfl (by omega) ?_
  refine ev_go (pc' := 863) (ls' := [some (vR (some 0)), some (vR (some 1)), some (vR (some 190)), some (vR (some 204)), some (vI ((i : Nat) : Int)), z5, z6, z7]) (st' := [vR (some 204), vI (xs (i + 2)).toInt, vI (xs (i + 1)).toInt, vR (some 1)]) (h1 := HS t m) 1 (by rfl) ?_
  refine ev_call rfl rfl (Nat.le_of_ble_eq_true rfl) h1 ⟨hc.1, hs.1⟩ ?_
  show Ev (PP L xs) _ 141 866 [some (vR (some 0)), some (vR (some 1)), some (vR (some 190)), some (vR (some 204)), some (vI ((i : Nat) : Int)), z5, z6, z7] [vI kk] (HS t2 mm) _ _
  refine ev_go (pc' := 874) (ls' := [some (vR (some 0)), some (vR (some 1)), some (vR (some 190)), some (vR (some 204)), some (vI ((i : Nat) : Int)), some (vI kk), z6, z7]) (st' := [vI ((i + 1 : Nat) : Int), vR (some 0), vR (some 190)]) (h1 := HS t2 mm) 6 (by rfl) ?_
  refine ev_sld (k := (i + 1)) rfl rfl (by omega) ?_
  refine ev_go (pc' := 880) (ls' := [some (vR (some 0)), some (vR (some 1)), some (vR (some 190)), some (vR (some 204)), some (vI ((i : Nat) : Int)), some (vI kk), z6, z7]) (st' := [vI ((i + 2 : Nat) : Int), vR (some 0), vI (xs (i + 1)).toInt, vR (some 190)]) (h1 := HS t2 mm) 4 (by rfl) ?_
  refine ev_sld (k := (i + 2)) rfl rfl (by omega) ?_
  refine ev_call rfl rfl (Nat.le_of_ble_eq_true rfl) h2 ⟨Nat.le_refl _, Nat.le_refl _⟩ ?_
  show Ev (PP L xs) _ 141 884 [some (vR (some 0)), some (vR (some 1)), some (vR (some 190)), some (vR (some 204)), some (vI ((i : Nat) : Int)), some (vI kk), z6, z7] [vI v] (HS t2 m2) _ _
  refine ev_go (pc' := 887) (ls' := [some (vR (some 0)), some (vR (some 1)), some (vR (some 190)), some (vR (some 204)), some (vI ((i : Nat) : Int)), some (vI kk), some (vI v), z7]) (st' := [vR (some 190)]) (h1 := HS t2 m2) 2 (by rfl) ?_
  have hth := m_thrown (L := L) (xs := xs) (d := 10) (t := t2) (m := m2)
  rw [e0] at hth
  refine ev_call rfl rfl (Nat.le_of_ble_eq_true rfl) hth ⟨Nat.le_refl _, Nat.le_refl _⟩ ?_
  show Ev (PP L xs) _ 141 890 [some (vR (some 0)), some (vR (some 1)), some (vR (some 190)), some (vR (some 204)), some (vI ((i : Nat) : Int)), some (vI kk), some (vI v), z7] [vI kk] (HS t2 m2) _ _
  refine ev_go (pc' := 892) (ls' := [some (vR (some 0)), some (vR (some 1)), some (vR (some 190)), some (vR (some 204)), some (vI ((i : Nat) : Int)), some (vI kk), some (vI v), z7]) (st' := [vI kk, vI kk]) (h1 := HS t2 m2) 1 (by rfl) ?_
  refine ev_ic0 rfl hkI hkI (fun c892 => ?_) (fun c892 => absurd c892 (fun h => h rfl))
  refine ev_go (pc' := 899) (ls' := [some (vR (some 0)), some (vR (some 1)), some (vR (some 190)), some (vR (some 204)), some (vI ((i : Nat) : Int)), some (vI kk), some (vI v), z7]) (st' := [vI kk]) (h1 := HS t2 m2) 1 (by rfl) ?_
  refine ev_if1 rfl hkI (fun c899 => ?_) (fun c899 => ?_)
  · refine ev_go (pc' := 998) (ls' := [some (vR (some 0)), some (vR (some 1)), some (vR (some 190)), some (vR (some 204)), some (vI ((i : Nat) : Int)), some (vI kk), some (vI v), z7]) (st' := []) (h1 := HS t2 m2) 1 (by rfl) ?_
    exact hE
  · refine ev_go (pc' := 904) (ls' := [some (vR (some 0)), some (vR (some 1)), some (vR (some 190)), some (vR (some 204)), some (vI ((i : Nat) : Int)), some (vI kk), some (vI v), z7]) (st' := [vI 0, vR (some 204)]) (h1 := HS t2 m2) 2 (by rfl) ?_
    refine ev_laldv (k := 0) (v := v) rfl rfl rfl (by omega) ((e4 (by assumption))) ?_
    refine ev_go (pc' := 907) (ls' := [some (vR (some 0)), some (vR (some 1)), some (vR (some 190)), some (vR (some 204)), some (vI ((i : Nat) : Int)), some (vI kk), some (vI v), z7]) (st' := [vI v, vJ v]) (h1 := HS t2 m2) 1 (by rfl) ?_
    refine ev_i2l rfl hv ?_
    refine ev_lcmp rfl (inJ_I hv) (inJ_I hv) ?_
    refine ev_if0 rfl (cmp_in _ _) (fun c909 => ?_) (fun c909 => absurd c909 (fun h => h (cmp_self v)))
    refine ev_go (pc' := 998) (ls' := [some (vR (some 0)), some (vR (some 1)), some (vR (some 190)), some (vR (some 204)), some (vI ((i : Nat) : Int)), some (vI kk), some (vI v), z7]) (st' := []) (h1 := HS t2 m2) 1 (by rfl) ?_
    exact hE
set_option maxRecDepth 10000 in
theorem lc_shareAnew {L : Nat} {xs : Nat → Int32} {i : Nat} (hi : i + 3 ≤ L) : LCP L xs i 917 := by
  intro t m w k C D S z5 z6 z7 hA
  obtain ⟨kk, v, t2, mm, m2, w2, k2, C2, D2, S2, h1, h2, e0, hkI, e4, hv, hA2, hc, hs, hQ⟩ := op_shareAnew (L := L) (xs := xs) (t := t) hA (c := (xs (i + 1)).toInt) (e := (xs (i + 2)).toInt) (xs_in _) (xs_in _)
  refine ⟨t2, m2, w2, k2, C2, D2, S2, some (vI kk), (some (vI v)), z7, hA2, hc, hs, fun o h' hE => ?_⟩
  refine ev_go (pc' := 923) (ls' := [some (vR (some 0)), some (vR (some 1)), some (vR (some 190)), some (vR (some 204)), some (vI ((i : Nat) : Int)), z5, z6, z7]) (st' := [vI ((i + 1 : Nat) : Int), vR (some 0), vR (some 1)]) (h1 := HS t m) 5 (by rfl) ?_
  refine ev_sld (k := (i + 1)) rfl rfl (by omega) ?_
  refine ev_go (pc' := 929) (ls' := [some (vR (some 0)), some (vR (some 1)), some (vR (some 190)), some (vR (some 204)), some (vI ((i : Nat) : Int)), z5, z6, z7]) (st' := [vI ((i + 2 : Nat) : Int), vR (some 0), vI (xs (i + 1)).toInt, vR (some 1)]) (h1 := HS t m) 4 (by rfl) ?_
  refine ev_sld (k := (i + 2)) rfl rfl (by omega) ?_
  refine ev_go (pc' := 931) (ls' := [some (vR (some 0)), some (vR (some 1)), some (vR (some 190)), some (vR (some 204)), some (vI ((i : Nat) : Int)), z5, z6, z7]) (st' := [vR (some 204), vI (xs (i + 2)).toInt, vI (xs (i + 1)).toInt, vR (some 1)]) (h1 := HS t m) 1 (by rfl) ?_
  refine ev_call rfl rfl (Nat.le_of_ble_eq_true rfl) h1 ⟨hc.1, hs.1⟩ ?_
  show Ev (PP L xs) _ 141 934 [some (vR (some 0)), some (vR (some 1)), some (vR (some 190)), some (vR (some 204)), some (vI ((i : Nat) : Int)), z5, z6, z7] [vI kk] (HS t2 mm) _ _
  refine ev_go (pc' := 942) (ls' := [some (vR (some 0)), some (vR (some 1)), some (vR (some 190)), some (vR (some 204)), some (vI ((i : Nat) : Int)), some (vI kk), z6, z7]) (st' := [vI ((i + 1 : Nat) : Int), vR (some 0), vR (some 190)]) (h1 := HS t2 mm) 6 (by rfl) ?_
  refine ev_sld (k := (i + 1)) rfl rfl (by omega) ?_
  refine ev_go (pc' := 948) (ls' := [some (vR (some 0)), some (vR (some 1)), some (vR (some 190)), some (vR (some 204)), some (vI ((i : Nat) : Int)), some (vI kk), z6, z7]) (st' := [vI ((i + 2 : Nat) : Int), vR (some 0), vI (xs (i + 1)).toInt, vR (some 190)]) (h1 := HS t2 mm) 4 (by rfl) ?_
  refine ev_sld (k := (i + 2)) rfl rfl (by omega) ?_
  refine ev_call rfl rfl (Nat.le_of_ble_eq_true rfl) h2 ⟨Nat.le_refl _, Nat.le_refl _⟩ ?_
  show Ev (PP L xs) _ 141 952 [some (vR (some 0)), some (vR (some 1)), some (vR (some 190)), some (vR (some 204)), some (vI ((i : Nat) : Int)), some (vI kk), z6, z7] [vI v] (HS t2 m2) _ _
  refine ev_go (pc' := 955) (ls' := [some (vR (some 0)), some (vR (some 1)), some (vR (some 190)), some (vR (some 204)), some (vI ((i : Nat) : Int)), some (vI kk), some (vI v), z7]) (st' := [vR (some 190)]) (h1 := HS t2 m2) 2 (by rfl) ?_
  have hth := m_thrown (L := L) (xs := xs) (d := 10) (t := t2) (m := m2)
  rw [e0] at hth
  refine ev_call rfl rfl (Nat.le_of_ble_eq_true rfl) hth ⟨Nat.le_refl _, Nat.le_refl _⟩ ?_
  show Ev (PP L xs) _ 141 958 [some (vR (some 0)), some (vR (some 1)), some (vR (some 190)), some (vR (some 204)), some (vI ((i : Nat) : Int)), some (vI kk), some (vI v), z7] [vI kk] (HS t2 m2) _ _
  refine ev_go (pc' := 960) (ls' := [some (vR (some 0)), some (vR (some 1)), some (vR (some 190)), some (vR (some 204)), some (vI ((i : Nat) : Int)), some (vI kk), some (vI v), z7]) (st' := [vI kk, vI kk]) (h1 := HS t2 m2) 1 (by rfl) ?_
  refine ev_ic0 rfl hkI hkI (fun c960 => ?_) (fun c960 => absurd c960 (fun h => h rfl))
  refine ev_go (pc' := 967) (ls' := [some (vR (some 0)), some (vR (some 1)), some (vR (some 190)), some (vR (some 204)), some (vI ((i : Nat) : Int)), some (vI kk), some (vI v), z7]) (st' := [vI kk]) (h1 := HS t2 m2) 1 (by rfl) ?_
  refine ev_if1 rfl hkI (fun c967 => ?_) (fun c967 => ?_)
  · refine ev_go (pc' := 998) (ls' := [some (vR (some 0)), some (vR (some 1)), some (vR (some 190)), some (vR (some 204)), some (vI ((i : Nat) : Int)), some (vI kk), some (vI v), z7]) (st' := []) (h1 := HS t2 m2) 1 (by rfl) ?_
    exact hE
  · refine ev_go (pc' := 972) (ls' := [some (vR (some 0)), some (vR (some 1)), some (vR (some 190)), some (vR (some 204)), some (vI ((i : Nat) : Int)), some (vI kk), some (vI v), z7]) (st' := [vI 0, vR (some 204)]) (h1 := HS t2 m2) 2 (by rfl) ?_
    refine ev_laldv (k := 0) (v := v) rfl rfl rfl (by omega) ((e4 (by assumption))) ?_
    refine ev_go (pc' := 975) (ls' := [some (vR (some 0)), some (vR (some 1)), some (vR (some 190)), some (vR (some 204)), some (vI ((i : Nat) : Int)), some (vI kk), some (vI v), z7]) (st' := [vI v, vJ v]) (h1 := HS t2 m2) 1 (by rfl) ?_
    refine ev_i2l rfl hv ?_
    refine ev_lcmp rfl (inJ_I hv) (inJ_I hv) ?_
    refine ev_if0 rfl (cmp_in _ _) (fun c977 => ?_) (fun c977 => absurd c977 (fun h => h (cmp_self v)))
    refine ev_go (pc' := 998) (ls' := [some (vR (some 0)), some (vR (some 1)), some (vR (some 190)), some (vR (some 204)), some (vI ((i : Nat) : Int)), some (vI kk), some (vI v), z7]) (st' := []) (h1 := HS t2 m2) 1 (by rfl) ?_
    exact hE
set_option maxRecDepth 10000 in
theorem lc_texts {L : Nat} {xs : Nat → Int32} {i : Nat} : LCP L xs i 985 := by
  intro t m w k C D S z5 z6 z7 hA
  obtain ⟨v, m1, m2, w2, k2, C2, D2, S2, h1, h2, hv, hA2⟩ := op_texts (L := L) (xs := xs) (t := t) hA
  refine ⟨t, m2, w2, k2, C2, D2, S2, z5, z6, z7, hA2, ⟨Nat.le_refl _, Nat.le_add_right _ _⟩, ⟨Nat.le_refl _, Nat.le_add_right _ _⟩, fun o h' hE => ?_⟩
  refine ev_go (pc' := 986) (ls' := [some (vR (some 0)), some (vR (some 1)), some (vR (some 190)), some (vR (some 204)), some (vI ((i : Nat) : Int)), z5, z6, z7]) (st' := [vR (some 1)]) (h1 := HS t m) 1 (by rfl) ?_
  refine ev_call rfl rfl (Nat.le_of_ble_eq_true rfl) h1 ⟨Nat.le_refl _, Nat.le_refl _⟩ ?_
  show Ev (PP L xs) _ 141 989 [some (vR (some 0)), some (vR (some 1)), some (vR (some 190)), some (vR (some 204)), some (vI ((i : Nat) : Int)), z5, z6, z7] [vI v] (HS t m1) _ _
  refine ev_go (pc' := 990) (ls' := [some (vR (some 0)), some (vR (some 1)), some (vR (some 190)), some (vR (some 204)), some (vI ((i : Nat) : Int)), z5, z6, z7]) (st' := [vR (some 190), vI v]) (h1 := HS t m1) 1 (by rfl) ?_
  refine ev_call rfl rfl (Nat.le_of_ble_eq_true rfl) h2 ⟨Nat.le_refl _, Nat.le_refl _⟩ ?_
  show Ev (PP L xs) _ 141 993 [some (vR (some 0)), some (vR (some 1)), some (vR (some 190)), some (vR (some 204)), some (vI ((i : Nat) : Int)), z5, z6, z7] [vI v, vI v] (HS t m2) _ _
  refine ev_ic0 rfl hv hv (fun c993 => ?_) (fun c993 => absurd c993 (fun h => h rfl))
  exact hE
