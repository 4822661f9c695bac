/-! ===== calls, ends ===== -/
section SOC
variable {P : Nat → mMD} {B b L : Nat} {xs : Nat → Int32} {D : va_G} {aC : Nat → ClassId} {p : Program} {l : Launch} {e : Env} {R : Room} {s : State} {m : MethodId} {args : Array Value} {below : List Frame} {meth : Method} {c : Code} {md : mMD} {d c0 s0 : Nat} {Q : State → Prop} {pc : Nat}

variable {H : Heap} {locs : List Loc} {cells slots : Nat} {ls : Array Slot}
theorem vx_useR {mc ms : Nat} {st0 rest : List Value} {v : Option mMV} {h1 : mMH} {a : Array Value} (hr : vx_Run p l e R s m args below meth c H locs cells slots mc ms (F0 m pc ls st0) rest (QcM B b D aC v h1 a) (fun _ _ _ => False) (fun q => B < q)) (hS : va_S (fun q => B < q) s.heap H locs)
    (kk : ∀ (H1 : Heap) (locs1 : List Loc), HR B b D aC h1 H1 → va_S (fun q => B < q) s.heap H1 locs1 → W p l e R s m args below meth c H1 locs1 (cells + mc) (slots + ms) Q (F0 m (pc + 3) ls ((v.map (eV B b)).toList ++ rest))) : W p l e R s m args below meth c H locs cells slots Q (F0 m pc ls st0) := by
  intro T hT X
  rcases hr T hT X with ⟨v9, st₀, t, T', L9, h0, X', hL, e1, e2, ⟨hv, hh, hF⟩, st⟩ | ⟨q, st₀, t, T', L9, E, ce, h0, X', hL, e1, e2, hF, -⟩
  · cases hv
    obtain ⟨k1, k2, k3⟩ := vx_keep h0 e1 hS (fun q _ h => h) (fun q h => h) hL hF
    obtain ⟨t2, a1, b1⟩ := kk T'.heap (locs ++ L9) (by rw [e1]; exact hh) k3 T' rfl X'
    exact ⟨t2, st t2 a1, b1⟩
  · exact absurd hF id
theorem vx_useX {mc ms : Nat} {st0 rest : List Value} {E : Nat} {h1 : mMH} {Qa : State → Outcome → State → Prop} (hQ : ∀ a b c, ¬ Qa a b c) (hr : vx_Run p l e R s m args below meth c H locs cells slots mc ms (F0 m pc ls st0) rest Qa (XCM B b D aC E h1) (fun q => B < q)) (hS : va_S (fun q => B < q) s.heap H locs)
    (kk : ∀ (H1 : Heap) (locs1 : List Loc) (q : Addr) (ce : Cell), HR B b D aC h1 H1 → va_S (fun q => B < q) s.heap H1 locs1 → H1[q]? = some ce → ce.vm = .none → s.vm.findClass (en E) = some ce.cls → vx_W p l e R s m args below meth c H1 locs1 (cells + mc) (slots + ms) Q (F0 m pc ls rest) q) : W p l e R s m args below meth c H locs cells slots Q (F0 m pc ls st0) := by
  intro T hT X
  rcases hr T hT X with ⟨v9, st₀, t, T', L9, h0, X', hL, e1, e2, hF, -⟩ | ⟨q, st₀, t, T', L9, E9, ce, h0, X', hL, e1, e2, ⟨rfl, hh, hF⟩, hce, hcv, hcl, st⟩
  · exact absurd hF (hQ _ _ _)
  · obtain ⟨k1, k2, k3⟩ := vx_keep h0 e1 hS (fun q _ h => h) (fun q h => h) hL hF
    obtain ⟨t2, a1, b1⟩ := kk T'.heap (locs ++ L9) q ce (by rw [e1]; exact hh) k3 (by rw [e1]; exact hce) hcv hcl T' rfl X'
    exact ⟨t2, st.trans a1, b1⟩
theorem pc_blind {as : List mMV} {h : mMH} : FrameBlind (PcM B b L xs D aC as h) := by
  intro a U g mk q
  obtain ⟨q0, q1, qK, qG⟩ := q
  exact ⟨q0, q1, va_K.moved (u := U) (U := U.calling g mk a) (Vm.Alike.refl U.vm) qK, Gl.moved (s := U) (U := U.calling g mk a) (State.WarmedH.refl U) qG⟩
theorem pc_here {as : List mMV} {h : mMH} (hK : va_K D vwCl (tysL aC) s) (hG : Gl B b L xs s s.heap) (hH : HR B b D aC h H) (hS : va_S (fun q => B < q) s.heap H locs) {U : State} (hU : U.heap = H) (hW : s.WarmedH U.vm) : PcM B b L xs D aC as h (as.map (eV B b)).toArray U := by
  refine ⟨rfl, by rw [hU]; exact hH, va_K.moved hW.alike hK, ?_⟩
  rw [hU]
  exact (hG.moved hW).kept hS.1 (fun q hq => hS.2.1 q (Nat.lt_of_le_of_lt hq hG.1.1) (Nat.not_lt.mpr hq))
theorem wc_good {i : Nat} (w4 : wC (P i) ∈ w_all) : GoodIn w_all (wC (P i) :: w_all) := fun w hw => by
  rcases List.mem_cons.mp hw with rfl | hw
  · exact w_good w4
  · exact w_good hw
theorem g_cons {a : Cond} {ws : List Cond} (h : a ∈ w_all) (hG : GoodIn w_all ws) : GoodIn w_all (a :: ws) := fun w hw => by
  rcases List.mem_cons.mp hw with rfl | hw
  · exact w_good h
  · exact hG w hw
theorem wc_code {i : Nat} (h0 : dH (P i) = []) : wC (P i) = .code (dY (P i)) (dB (P i)) (dL (P i)) (dT (P i)) := by
  unfold wC; rw [h0]
theorem room_c {d' mL : Nat} (hRm : d + 1 ≤ R.frames ∧ 40 + 39 * d ≤ R.locals) (hd : d = d' + 1) (hL : mL ≤ 20) : d' + 1 + 1 ≤ R.frames ∧ 8 + (mL + 11) + (40 + 39 * d') ≤ R.locals := by omega
theorem roomy_c {r : mST} (h : roomy r = true) : ((r.map (eV B b)).map fun v => v.category).sum ≤ 8 := by
  have h1 : (r.map mcat).sum ≤ 8 := Nat.ble_eq.mp h
  have hcat : ((r.map (eV B b)).map fun v => v.category).sum = (r.map mcat).sum := by
    rw [List.map_map]
    congr 1
    exact List.map_congr_left fun v _ => cat_eV B b v
  rw [hcat]; exact h1
theorem st_S {n : Nat} {st : mST} (hn : n ≤ st.length) : st.map (eV B b) = (((st.take n).reverse).map (eV B b)).reverse ++ (st.drop n).map (eV B b) := by
  rw [← List.map_reverse, List.reverse_reverse, ← List.map_append, List.take_append_drop]
/-- a call whose run is known, both ways -/
theorem so_run {i : Nat} {as : List mMV} {rest : mST} {lsl : mLS} {stl : mST} {h h1 : mMH} {d' : Nat} {o : Option mMV ⊕ Nat} (hd' : d = d' + 1) (hc1 : mC h ≤ mC h1) (hs1 : mSl h ≤ mSl h1) (hc2 : mC h1 ≤ c0 + R.cells) (hs2 : mSl h1 ≤ s0 + R.slots) (hM : CM B b L xs D aC l (P i) d' as h o h1)
    (k : ∀ (H : Heap) (locs : List Loc) (ls : Array Slot) (cells slots : Nat) (Qc : Array Value → State → Outcome → State → Prop) (XC : String → State → State → Prop), HR B b D aC h H → va_S (fun q => B < q) s.heap H locs → ls.size = dL md → cells + (mC h1 - mC h) ≤ R.cells ∧ slots + (mSl h1 - mSl h) ≤ R.slots →
      vx_Met l (dY (P i)) (wC (P i) :: w_all) { frames := d' + 1, cells := mC h1 - mC h, slots := mSl h1 - mSl h, locals := 40 + 39 * d' } (PcM B b L xs D aC as h) Qc XC (mC h1 - mC h) (mSl h1 - mSl h) (fun q => B < q) →
      vx_Run p l e R s m args below meth c H locs cells slots (mC h1 - mC h) (mSl h1 - mSl h) (F0 m pc ls (stl.map (eV B b))) (rest.map (eV B b)) (Qc (as.map (eV B b)).toArray) XC (fun q => B < q)) :
    SOo B b D aC p l e R s m args below meth c md c0 s0 Q o (pc + 3) lsl rest h1 pc stl h := by
  cases o with
  | inl v =>
    intro kk H locs ls cells slots hH hS hl hc hs
    refine vx_useR (k H locs ls cells slots _ _ hH hS hl.choose_spec.1.1 ⟨by omega, by omega⟩ hM) hS fun H1 locs1 hH1 hS1 => ?_
    have := kk H1 locs1 ls (cells + (mC h1 - mC h)) (slots + (mSl h1 - mSl h)) hH1 hS1 hl (by omega) (by omega)
    rw [List.map_append] at this
    cases v with
    | none => exact this
    | some v => exact this
  | inr E =>
    intro kk H locs ls cells slots hH hS hl hc hs
    exact vx_useX (fun _ _ _ h => h) (k H locs ls cells slots _ _ hH hS hl.choose_spec.1.1 ⟨by omega, by omega⟩ hM) hS fun H1 locs1 q ce hH1 hS1 g1 g2 g3 => kk H1 locs1 ls _ _ _ q ce hH1 hS1 hl (by omega) (by omega) g1 g2 g3

theorem so_callS {i n index : Nat} (X : Cx B b L xs D aC p l R s m args meth c md d) (h0 : dH (P i) = []) (w1 : Cond.methodLink (dY md).cls index (dY (P i)) ∈ w_all) (w2 : Cond.static (dY (P i)) ∈ w_all) (w3 : Cond.initialized (dY (P i)).cls ∈ w_all) (hd0 : (dY (P i)).cls ≠ "java/lang/invoke/MethodHandle" ∧ (dY (P i)).cls ≠ "java/lang/invoke/VarHandle" ∧ (parseMethodDescriptor (dY (P i)).desc).map (fun d => d.parameters.length) = some n) (w4 : wC (P i) ∈ w_all) (hd : decode (dB md) pc = .ok (.invokestatic index, 3)) : SO P B b L xs D aC p l e R s m args below meth c md d c0 s0 Q pc (mo_callS i n (pc + 3)) := by
  obtain ⟨hx, hb, hml, hown, hts, hlk, hst, hK, hG, hRm, htb, hnm⟩ := X
  intro lsl stl h r hf
  unfold mo_callS at hf
  obtain ⟨hq, hf⟩ := bq hf
  obtain rfl := Option.some.inj hf
  obtain ⟨hq1, hq2⟩ := b2 hq
  have hq1 : n ≤ stl.length := Nat.ble_eq.mp hq1
  intro d' o h1 hd' hc1 hs1 hc2 hs2 hL11 hM
  have hRc := room_c hRm hd' hL11
  exact so_run (i := i) hd' hc1 hs1 hc2 hs2 hM fun H locs ls cells slots Qc XC hH hS hls hf9 hM9 =>
    vx_runS ⟨hx, hb, hml, hown, hts⟩ hM9 (⟨callB_of n hts (wc_good w4) (by rw [wc_code h0]) rfl rfl (hts _ w3) (hts _ w1) hd0 hRc, hts _ w2⟩) ⟨pc_blind, fun U hU hW => pc_here hK hG hH hS hU hW⟩ rfl (by rw [List.length_map, List.length_reverse, List.length_take]; omega) (by show ls.size = _; exact hls) (st_S hq1) (lv_room (roomy_c hq2)) hd hf9

theorem so_callSN {i n index : Nat} {host : String} (X : Cx B b L xs D aC p l R s m args meth c md d) (h0 : dH (P i) = []) (w1 : Cond.methodLinkNest (dY md).cls index (dY (P i)) host ∈ w_bad) (w2 : Cond.static (dY (P i)) ∈ w_all) (w3 : Cond.initialized (dY (P i)).cls ∈ w_all) (hd0 : (dY (P i)).cls ≠ "java/lang/invoke/MethodHandle" ∧ (dY (P i)).cls ≠ "java/lang/invoke/VarHandle" ∧ (parseMethodDescriptor (dY (P i)).desc).map (fun d => d.parameters.length) = some n) (w4 : wC (P i) ∈ w_all) (hd : decode (dB md) pc = .ok (.invokestatic index, 3)) : SO P B b L xs D aC p l e R s m args below meth c md d c0 s0 Q pc (mo_callS i n (pc + 3)) := by
  obtain ⟨hx, hb, hml, hown, hts, hlk, hst, hK, hG, hRm, htb, hnm⟩ := X
  intro lsl stl h r hf
  unfold mo_callS at hf
  obtain ⟨hq, hf⟩ := bq hf
  obtain rfl := Option.some.inj hf
  obtain ⟨hq1, hq2⟩ := b2 hq
  have hq1 : n ≤ stl.length := Nat.ble_eq.mp hq1
  intro d' o h1 hd' hc1 hs1 hc2 hs2 hL11 hM
  have hRc := room_c hRm hd' hL11
  exact so_run (i := i) hd' hc1 hs1 hc2 hs2 hM fun H locs ls cells slots Qc XC hH hS hls hf9 hM9 =>
    vx_runSN ⟨hx, hb, hml, hown, hts⟩ hM9 (⟨va_cnB n hts (wc_good w4) (by rw [wc_code h0]) rfl rfl (hG.2.2.2.2.2.1 _ w1) (hts _ w3) hd0 hRc, hts _ w2, trivial⟩) ⟨pc_blind, fun U hU hW => pc_here hK hG hH hS hU hW⟩ rfl (by rw [List.length_map, List.length_reverse, List.length_take]; omega) (by show ls.size = _; exact hls) (st_S hq1) (lv_room (roomy_c hq2)) hd hf9

theorem so_callSW {i n index : Nat} {q0 : Nat × Nat × Nat × Nat} {qs : List (Nat × Nat × Nat × Nat)} (X : Cx B b L xs D aC p l R s m args meth c md d) (h0 : dH (P i) = q0 :: qs) (w1 : Cond.methodLink (dY md).cls index (dY (P i)) ∈ w_all) (w2 : Cond.static (dY (P i)) ∈ w_all) (w3 : Cond.initialized (dY (P i)).cls ∈ w_all) (hd0 : (dY (P i)).cls ≠ "java/lang/invoke/MethodHandle" ∧ (dY (P i)).cls ≠ "java/lang/invoke/VarHandle" ∧ (parseMethodDescriptor (dY (P i)).desc).map (fun d => d.parameters.length) = some n) (w4 : wC (P i) ∈ w_all) (hd : decode (dB md) pc = .ok (.invokestatic index, 3)) : SO P B b L xs D aC p l e R s m args below meth c md d c0 s0 Q pc (mo_callS i n (pc + 3)) := by
  obtain ⟨hx, hb, hml, hown, hts, hlk, hst, hK, hG, hRm, htb, hnm⟩ := X
  intro lsl stl h r hf
  unfold mo_callS at hf
  obtain ⟨hq, hf⟩ := bq hf
  obtain rfl := Option.some.inj hf
  obtain ⟨hq1, hq2⟩ := b2 hq
  have hq1 : n ≤ stl.length := Nat.ble_eq.mp hq1
  intro d' o h1 hd' hc1 hs1 hc2 hs2 hL11 hM
  have hRc := room_c hRm hd' hL11
  exact so_run (i := i) hd' hc1 hs1 hc2 hs2 hM fun H locs ls cells slots Qc XC hH hS hls hf9 hM9 =>
    vx_runSX (hh := q0 :: qs) ⟨hx, hb, hml, hown, hts⟩ hM9 (vx_cwSW n hts (g_cons w1 (g_cons w2 (g_cons w3 (wc_good w4)))) (by unfold wC; rw [h0]) rfl rfl hd0 hRc) ⟨pc_blind, fun U hU hW => pc_here hK hG hH hS hU hW⟩ rfl (by rw [List.length_map, List.length_reverse, List.length_take]; omega) (by show ls.size = _; exact hls) (st_S hq1) (lv_room (roomy_c hq2)) hd hf9

theorem so_callV {i cn n index : Nat} {q : vw_C} (X : Cx B b L xs D aC p l R s m args meth c md d) (h0 : dH (P i) = []) (hcl : vwCl[cn]? = some q) (hy : (dY (P i)).cls = q.1) (w1 : Cond.methodLink (dY md).cls index (dY (P i)) ∈ w_all) (w2 : Cond.instanceMethod (dY (P i)) ∈ w_all) (w3 : Cond.selects q.1 (dY (P i)) (dY (P i)) ∈ w_all) (w5 : Cond.initialized q.1 ∈ w_all) (hd0 : (dY (P i)).cls ≠ "java/lang/invoke/MethodHandle" ∧ (dY (P i)).cls ≠ "java/lang/invoke/VarHandle" ∧ (parseMethodDescriptor (dY (P i)).desc).map (fun d => d.parameters.length) = some n) (w4 : wC (P i) ∈ w_all) (hd : decode (dB md) pc = .ok (.invokevirtual index, 3)) : SO P B b L xs D aC p l e R s m args below meth c md d c0 s0 Q pc (mo_callV i cn n (pc + 3)) := by
  obtain ⟨hx, hb, hml, hown, hts, hlk, hst, hK, hG, hRm, htb, hnm⟩ := X
  intro lsl stl h r hf
  unfold mo_callV at hf
  split at hf
  · rename_i a as has
    obtain ⟨hq, hf⟩ := bq hf
    obtain rfl := Option.some.inj hf
    obtain ⟨hq1, hq⟩ := b2 hq
    obtain ⟨hq2, hq3⟩ := b2 hq
    have hq2 : as.length = n := Nat.eq_of_beq_eq_true hq2
    have hlen : n + 1 ≤ stl.length := by
      have := congrArg List.length has
      rw [List.length_reverse, List.length_take, List.length_cons] at this
      omega
    have hstk : stl.map (eV B b) = (as.map (eV B b)).reverse ++ (.ref (adr B b a) :: (stl.drop (n + 1)).map (eV B b)) := by
      rw [st_S (n := n + 1) hlen, has]
      simp [eV, eR, va_rf]
    intro d' o h1 hd' hc1 hs1 hc2 hs2 hL11 hM
    have hRc := room_c hRm hd' hL11
    refine so_run (i := i) hd' hc1 hs1 hc2 hs2 hM fun H locs ls cells slots Qc XC hH hS hls hf9 hM9 => ?_
    have hPc : ∀ U : State, U.heap = H → s.WarmedH U.vm → PcM B b L xs D aC (vR (some a) :: as) h (Value.ref (adr B b a) :: as.map (eV B b)).toArray U := fun U hU hW => pc_here hK hG hH hS hU hW
    have hrv : ∃ cell : Cell, H[adr B b a]? = some cell ∧ cell.vm.isStatics = false ∧ s.vm.findClass q.1 = some cell.cls := va_recv hK (va_1 (hr_0 hH (kq_k hq1)).2) hcl (q0 := 0) rfl
    exact vx_runV (C := q.1) ⟨hx, hb, hml, hown, hts⟩ hM9 (cwV n hts (g_cons w1 (g_cons w2 (g_cons w3 (g_cons w5 (wc_good w4))))) (by rw [wc_code h0]) rfl rfl ⟨hy, hd0⟩ hRc) ⟨pc_blind, hrv, hPc⟩ rfl (by rw [List.length_map]; exact hq2) (by show ls.size = _; exact hls) hstk (lv_room (roomy_c hq3)) hd hf9
  · cases hf

theorem so_callI {i cn n index : Nat} (X : Cx B b L xs D aC p l R s m args meth c md d) (h0 : dH (P i) = []) (ht0 : dT (P i) = none) (hini : (dY (P i)).name = "<init>") (w1 : Cond.methodLink (dY md).cls index (dY (P i)) ∈ w_all) (w2 : Cond.instanceMethod (dY (P i)) ∈ w_all) (w3 : Cond.initialized (dY (P i)).cls ∈ w_all) (hd0 : (dY (P i)).cls ≠ "java/lang/invoke/MethodHandle" ∧ (dY (P i)).cls ≠ "java/lang/invoke/VarHandle" ∧ (parseMethodDescriptor (dY (P i)).desc).map (fun d => d.parameters.length) = some n) (w4 : wC (P i) ∈ w_all) (hd : decode (dB md) pc = .ok (.invokespecial index, 3)) : SO P B b L xs D aC p l e R s m args below meth c md d c0 s0 Q pc (mo_callV i cn n (pc + 3)) := by
  obtain ⟨hx, hb, hml, hown, hts, hlk, hst, hK, hG, hRm, htb, hnm⟩ := X
  intro lsl stl h r hf
  unfold mo_callV at hf
  split at hf
  · rename_i a as has
    obtain ⟨hq, hf⟩ := bq hf
    obtain rfl := Option.some.inj hf
    obtain ⟨hq1, hq⟩ := b2 hq
    obtain ⟨hq2, hq3⟩ := b2 hq
    have hq2 : as.length = n := Nat.eq_of_beq_eq_true hq2
    have hlen : n + 1 ≤ stl.length := by
      have := congrArg List.length has
      rw [List.length_reverse, List.length_take, List.length_cons] at this
      omega
    have hstk : stl.map (eV B b) = (as.map (eV B b)).reverse ++ (.ref (adr B b a) :: (stl.drop (n + 1)).map (eV B b)) := by
      rw [st_S (n := n + 1) hlen, has]
      simp [eV, eR, va_rf]
    intro d' o h1 hd' hc1 hs1 hc2 hs2 hL11 hM
    have hRc := room_c hRm hd' hL11
    refine so_run (i := i) hd' hc1 hs1 hc2 hs2 hM fun H locs ls cells slots Qc XC hH hS hls hf9 hM9 => ?_
    have hPc : ∀ U : State, U.heap = H → s.WarmedH U.vm → PcM B b L xs D aC (vR (some a) :: as) h (Value.ref (adr B b a) :: as.map (eV B b)).toArray U := fun U hU hW => pc_here hK hG hH hS hU hW
    exact vx_runI ⟨hx, hb, hml, hown, hts⟩ hM9 (⟨callB_of n hts (wc_good w4) (by rw [wc_code h0, ht0]) rfl rfl (hts _ w3) (hts _ w1) hd0 hRc, hini, hts _ w2⟩) ⟨pc_blind, hPc⟩ rfl (by rw [List.length_map]; exact hq2) (by show ls.size = _; exact hls) hstk (lv_room (roomy_c hq3)) hd hf9
  · cases hf

theorem so_callIN {i cn n index : Nat} {host : String} (X : Cx B b L xs D aC p l R s m args meth c md d) (h0 : dH (P i) = []) (ht0 : dT (P i) = none) (hini : (dY (P i)).name = "<init>") (w1 : Cond.methodLinkNest (dY md).cls index (dY (P i)) host ∈ w_bad) (w2 : Cond.instanceMethod (dY (P i)) ∈ w_all) (w3 : Cond.initialized (dY (P i)).cls ∈ w_all) (hd0 : (dY (P i)).cls ≠ "java/lang/invoke/MethodHandle" ∧ (dY (P i)).cls ≠ "java/lang/invoke/VarHandle" ∧ (parseMethodDescriptor (dY (P i)).desc).map (fun d => d.parameters.length) = some n) (w4 : wC (P i) ∈ w_all) (hd : decode (dB md) pc = .ok (.invokespecial index, 3)) : SO P B b L xs D aC p l e R s m args below meth c md d c0 s0 Q pc (mo_callV i cn n (pc + 3)) := by
  obtain ⟨hx, hb, hml, hown, hts, hlk, hst, hK, hG, hRm, htb, hnm⟩ := X
  intro lsl stl h r hf
  unfold mo_callV at hf
  split at hf
  · rename_i a as has
    obtain ⟨hq, hf⟩ := bq hf
    obtain rfl := Option.some.inj hf
    obtain ⟨hq1, hq⟩ := b2 hq
    obtain ⟨hq2, hq3⟩ := b2 hq
    have hq2 : as.length = n := Nat.eq_of_beq_eq_true hq2
    have hlen : n + 1 ≤ stl.length := by
      have := congrArg List.length has
      rw [List.length_reverse, List.length_take, List.length_cons] at this
      omega
    have hstk : stl.map (eV B b) = (as.map (eV B b)).reverse ++ (.ref (adr B b a) :: (stl.drop (n + 1)).map (eV B b)) := by
      rw [st_S (n := n + 1) hlen, has]
      simp [eV, eR, va_rf]
    intro d' o h1 hd' hc1 hs1 hc2 hs2 hL11 hM
    have hRc := room_c hRm hd' hL11
    refine so_run (i := i) hd' hc1 hs1 hc2 hs2 hM fun H locs ls cells slots Qc XC hH hS hls hf9 hM9 => ?_
    have hPc : ∀ U : State, U.heap = H → s.WarmedH U.vm → PcM B b L xs D aC (vR (some a) :: as) h (Value.ref (adr B b a) :: as.map (eV B b)).toArray U := fun U hU hW => pc_here hK hG hH hS hU hW
    exact vx_runIN ⟨hx, hb, hml, hown, hts⟩ hM9 (⟨va_cnB n hts (wc_good w4) (by rw [wc_code h0, ht0]) rfl rfl (hG.2.2.2.2.2.1 _ w1) (hts _ w3) hd0 hRc, hini, hts _ w2⟩) ⟨pc_blind, hPc⟩ rfl (by rw [List.length_map]; exact hq2) (by show ls.size = _; exact hls) hstk (lv_room (roomy_c hq3)) hd hf9
  · cases hf

theorem so_callU {i1 i2 cn1 cn2 n index : Nat} {q1 q2 : vw_C} {x : MethodName} (X : Cx B b L xs D aC p l R s m args meth c md d) (g1 : dH (P i1) = []) (g2 : dH (P i2) = []) (hcl1 : vwCl[cn1]? = some q1) (hcl2 : vwCl[cn2]? = some q2) (w1 : Cond.methodLink (dY md).cls index x ∈ w_all) (w2 : Cond.sameMethod x.cls x.cls x.name x.desc ∈ w_all) (w3 : Cond.selects q1.1 x (dY (P i1)) ∈ w_all) (w4 : Cond.selects q2.1 x (dY (P i2)) ∈ w_all) (w5 : Cond.instanceMethod (dY (P i1)) ∈ w_all) (w6 : Cond.instanceMethod (dY (P i2)) ∈ w_all)
    (w7 : Cond.initialized (dY (P i1)).cls ∈ w_all) (w8 : Cond.initialized (dY (P i2)).cls ∈ w_all) (w9 : Cond.declares x ∈ w_bad) (hd0 : x.cls ≠ "java/lang/invoke/MethodHandle" ∧ x.cls ≠ "java/lang/invoke/VarHandle" ∧ (parseMethodDescriptor x.desc).map (fun d => d.parameters.length) = some n) (wa : wC (P i1) ∈ w_all) (wb : wC (P i2) ∈ w_all) (hd : decode (dB md) pc = .ok (.invokevirtual index, 3)) : SO P B b L xs D aC p l e R s m args below meth c md d c0 s0 Q pc (mo_callU i1 cn1 i2 cn2 n (pc + 3)) := by
  obtain ⟨hx, hb, hml, hown, hts, hlk, hst, hK, hG, hRm, htb, hnm⟩ := X
  intro lsl stl h r hf
  unfold mo_callU at hf
  split at hf
  · rename_i a as has
    obtain ⟨hq, hf⟩ := bq hf
    obtain ⟨hq2, hq3⟩ := b2 hq
    have hq2 : as.length = n := Nat.eq_of_beq_eq_true hq2
    have hlen : n + 1 ≤ stl.length := by
      have := congrArg List.length has
      rw [List.length_reverse, List.length_take, List.length_cons] at this
      omega
    have hstk : stl.map (eV B b) = (as.map (eV B b)).reverse ++ (.ref (adr B b a) :: (stl.drop (n + 1)).map (eV B b)) := by
      rw [st_S (n := n + 1) hlen, has]
      simp [eV, eR, va_rf]
    cases hk1 : kq h a 0 cn1 with
    | true =>
      rw [hk1] at hf
      obtain rfl := Option.some.inj hf
      intro d' o h1 hd' hc1 hs1 hc2 hs2 hL11 hM
      have hRc := room_c hRm hd' hL11
      refine so_run (i := i1) hd' hc1 hs1 hc2 hs2 hM fun H locs ls cells slots Qc XC hH hS hls hf9 hM9 => ?_
      have hPc : ∀ U : State, U.heap = H → s.WarmedH U.vm → PcM B b L xs D aC (vR (some a) :: as) h (Value.ref (adr B b a) :: as.map (eV B b)).toArray U := fun U hU hW => pc_here hK hG hH hS hU hW
      have hrv : ∃ cell : Cell, H[adr B b a]? = some cell ∧ cell.vm.isStatics = false ∧ s.vm.findClass q1.1 = some cell.cls := va_recv hK (va_1 (hr_0 hH (kq_k hk1)).2) hcl1 (q0 := 0) rfl
      exact vx_runU (C := q1.1) (owner := x.cls) (x := x) ⟨hx, hb, hml, hown, hts⟩ hM9 (va_cwA n hts (g_cons w1 (g_cons w2 (g_cons w3 (g_cons w5 (g_cons w7 (wc_good wa)))))) (by rw [wc_code g1]) rfl rfl (hG.2.2.2.2.2.1 _ w9) hd0 hRc) ⟨pc_blind, hrv, hPc⟩ rfl (by rw [List.length_map]; exact hq2) (by show ls.size = _; exact hls) hstk (lv_room (roomy_c hq3)) hd hf9
    | false =>
      rw [hk1] at hf
      obtain ⟨hk2, hf⟩ := bq (show (bif kq h a 0 cn2 then _ else none) = some r from hf)
      obtain rfl := Option.some.inj hf
      intro d' o h1 hd' hc1 hs1 hc2 hs2 hL11 hM
      have hRc := room_c hRm hd' hL11
      refine so_run (i := i2) hd' hc1 hs1 hc2 hs2 hM fun H locs ls cells slots Qc XC hH hS hls hf9 hM9 => ?_
      have hPc : ∀ U : State, U.heap = H → s.WarmedH U.vm → PcM B b L xs D aC (vR (some a) :: as) h (Value.ref (adr B b a) :: as.map (eV B b)).toArray U := fun U hU hW => pc_here hK hG hH hS hU hW
      have hrv : ∃ cell : Cell, H[adr B b a]? = some cell ∧ cell.vm.isStatics = false ∧ s.vm.findClass q2.1 = some cell.cls := va_recv hK (va_1 (hr_0 hH (kq_k hk2)).2) hcl2 (q0 := 0) rfl
      exact vx_runU (C := q2.1) (owner := x.cls) (x := x) ⟨hx, hb, hml, hown, hts⟩ hM9 (va_cwA n hts (g_cons w1 (g_cons w2 (g_cons w4 (g_cons w6 (g_cons w8 (wc_good wb)))))) (by rw [wc_code g2]) rfl rfl (hG.2.2.2.2.2.1 _ w9) hd0 hRc) ⟨pc_blind, hrv, hPc⟩ rfl (by rw [List.length_map]; exact hq2) (by show ls.size = _; exact hls) hstk (lv_room (roomy_c hq3)) hd hf9
  · cases hf

theorem so_iret (X : Cx B b L xs D aC p l R s m args meth c md d) (hr0 : dT md = some .int) (hd : decode (dB md) pc = .ok (.ireturn, 1)) : SO P B b L xs D aC p l e R s m args below meth c md d c0 s0 Q pc mo_iret := by
  obtain ⟨hx, hb, hml, hown, hts, hlk, hst, hK, hG, hRm, htb, hnm⟩ := X
  intro lsl stl h r hf
  unfold mo_iret at hf
  split at hf
  · rename_i x
    obtain rfl := Option.some.inj hf
    refine ⟨rfl, fun kk H locs ls cells slots hH hS hl hc hs => kk H locs ls cells slots pc .ireturn hH hS hc hs hd (Or.inl ⟨rfl, x, rfl, Or.inl hr0⟩)⟩
  · cases hf

theorem so_zret (X : Cx B b L xs D aC p l R s m args meth c md d) (hr0 : dT md = some .boolean) (hd : decode (dB md) pc = .ok (.ireturn, 1)) : SO P B b L xs D aC p l e R s m args below meth c md d c0 s0 Q pc mo_zret := by
  obtain ⟨hx, hb, hml, hown, hts, hlk, hst, hK, hG, hRm, htb, hnm⟩ := X
  intro lsl stl h r hf
  unfold mo_zret at hf
  split at hf
  · rename_i x
    obtain ⟨hz, hf⟩ := bq hf
    have hz : x = 0 ∨ x = 1 := by simpa using hz
    obtain rfl := Option.some.inj hf
    refine ⟨rfl, fun kk H locs ls cells slots hH hS hl hc hs => kk H locs ls cells slots pc .ireturn hH hS hc hs hd (Or.inl ⟨rfl, x, rfl, Or.inr ⟨hr0, hz⟩⟩)⟩
  · cases hf

theorem so_lret (X : Cx B b L xs D aC p l R s m args meth c md d) (hr0 : dT md = some .long) (hd : decode (dB md) pc = .ok (.lreturn, 1)) : SO P B b L xs D aC p l e R s m args below meth c md d c0 s0 Q pc mo_lret := by
  obtain ⟨hx, hb, hml, hown, hts, hlk, hst, hK, hG, hRm, htb, hnm⟩ := X
  intro lsl stl h r hf
  unfold mo_lret at hf
  split at hf
  · rename_i x
    obtain rfl := Option.some.inj hf
    refine ⟨rfl, fun kk H locs ls cells slots hH hS hl hc hs => kk H locs ls cells slots pc .lreturn hH hS hc hs hd (Or.inr (Or.inl ⟨rfl, x, rfl, hr0⟩))⟩
  · cases hf

theorem so_aret (X : Cx B b L xs D aC p l R s m args meth c md d) (hr0 : ∃ C : String, dT md = some (.object C)) (hd : decode (dB md) pc = .ok (.areturn, 1)) : SO P B b L xs D aC p l e R s m args below meth c md d c0 s0 Q pc mo_aret := by
  obtain ⟨hx, hb, hml, hown, hts, hlk, hst, hK, hG, hRm, htb, hnm⟩ := X
  intro lsl stl h r hf
  unfold mo_aret at hf
  split at hf
  · rename_i x
    obtain rfl := Option.some.inj hf
    refine ⟨rfl, fun kk H locs ls cells slots hH hS hl hc hs => kk H locs ls cells slots pc .areturn hH hS hc hs hd (Or.inr (Or.inr (Or.inl ⟨rfl, x, hr0.choose, rfl, hr0.choose_spec⟩)))⟩
  · cases hf

theorem so_vret (X : Cx B b L xs D aC p l R s m args meth c md d) (hr0 : dT md = none) (hd : decode (dB md) pc = .ok (.return_, 1)) : SO P B b L xs D aC p l e R s m args below meth c md d c0 s0 Q pc mo_vret := by
  obtain ⟨hx, hb, hml, hown, hts, hlk, hst, hK, hG, hRm, htb, hnm⟩ := X
  intro lsl stl h r hf
  unfold mo_vret at hf
  split at hf
  · skip
    obtain rfl := Option.some.inj hf
    refine ⟨rfl, fun kk H locs ls cells slots hH hS hl hc hs => kk H locs ls cells slots pc .return_ hH hS hc hs hd (Or.inr (Or.inr (Or.inr ⟨rfl, rfl, hr0⟩)))⟩
  · cases hf

end SOC
