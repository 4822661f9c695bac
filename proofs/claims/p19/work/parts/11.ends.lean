/-! ===== throws, handlers ===== -/
section SOE
variable {P : Nat → mMD} {B b L : Nat} {xs : Nat → Int32} {D : va_G} {aC : Nat → ClassId} {p : Program} {l : Launch} {e : Env} {R : Room} {s : State} {m : MethodId} {args : Array Value} {below : List Frame} {meth : Method} {c : Code} {md : mMD} {d c0 s0 : Nat} {Q : State → Prop} {pc : Nat}

theorem w_tab {w : Cond} (h : w_nst w = true) : w.onTables = true := by
  cases w with
  | fieldLinkNest a i b n d h0 => rfl
  | methodLinkNest a i x h0 => rfl
  | castable C T => rfl
  | declares x => rfl
  | _ => cases h
theorem w_use {w : Cond} (hw : w ∈ w_bad) (h : va_Nw w s) : w.before args s = true := va_Nw.use (w_tab (List.mem_filter.mp hw).2) h
theorem en_fit : ∀ E : Nat, E < 3 → Bundle.fit (en E) = true := by
  intro E hE
  rcases (show E = 0 ∨ E = 1 ∨ E = 2 by omega) with rfl | rfl | rfl
  · show Bundle.fit "java/lang/IllegalArgumentException" = true
    decide +kernel
  · show Bundle.fit "java/lang/IllegalStateException" = true
    decide +kernel
  · show Bundle.fit "java/lang/IndexOutOfBoundsException" = true
    decide +kernel
def w_ex (own : String) (ic E : Nat) : Bool := (vx_atS own ic (en E) ["java/lang/RuntimeException", "java/lang/Exception"]).all (fun w => decide (w ∈ lw_tbl) && (goodWord w || w_nst w) && vx_ot w)
theorem hr_thr {h : mMH} {H H1 : Heap} (hH : HR B b D aC h H) (hz : H.size ≤ H1.size) (ho : ∀ q : Nat, q < H.size → H1[q]? = H[q]?) : HR B b D aC (thr h) H1 := by
  obtain ⟨⟨z1, z2, z3⟩, k1, c1, y1, y2, y3⟩ := hH
  refine ⟨⟨fun z => Bool.noConfusion (show false = true from z), Nat.le_trans z2 hz, z3⟩, k1, fun k h9 => ?_, y1, y2, y3⟩
  have := k1 k h9
  exact (c1 k h9).kept (ho _ (by show B + k < H.size; omega))
theorem so_thr {E ik is ic : Nat} {text : String} (X : Cx B b L xs D aC p l R s m args meth c md d) (hh : dH md = []) (hE : E < 3) (hs : (is, text) ∈ w_str) (hc : (dY md).cls = "Trellistag") (w1 : Cond.classLink (dY md).cls ik (en E) ∈ w_all) (w2 : Cond.initialized (en E) ∈ w_all) (hat : w_ex "Trellistag" ic E = true)
    (d0 : decode (dB md) pc = .ok (.new ik, 3)) (d3 : decode (dB md) (pc + 3) = .ok (.dup, 1)) (d4 : decode (dB md) (pc + 4) = .ok (.ldc is, 2)) (d6 : decode (dB md) (pc + 6) = .ok (.invokespecial ic, 3)) (d9 : decode (dB md) (pc + 9) = .ok (.athrow, 1)) : SO P B b L xs D aC p l e R s m args below meth c md d c0 s0 Q pc (mo_thr E) := by
  obtain ⟨hx, hb, hml, hown, hts, hlk, hst, hK, hG, hRm, htb, hnm⟩ := X
  intro lsl stl h r hf
  unfold mo_thr at hf
  obtain ⟨hq, hf⟩ := bq hf
  obtain rfl := Option.some.inj hf
  refine ⟨⟨Nat.le_succ _, Nat.le_add_right _ _⟩, fun hd7 hc1 hs1 hTQ H locs ls cells slots hH hS hl hc0 hs0 => ?_⟩
  obtain ⟨Qc, XC, mc, ms, rfl, hXC, hmc, hms⟩ := hTQ
  have hc1 : mC h + 1 ≤ c0 + R.cells := hc1
  have hs1 : mSl h + 6 ≤ s0 + R.slots := hs1
  have hmc : mC h + 1 ≤ c0 + mc := hmc
  have hms : mSl h + 6 ≤ s0 + ms := hms
  obtain ⟨sa, hsa⟩ := hG.2.2.2.2.1 _ hs
  have hw : ∀ w ∈ vx_atS (dY md).cls ic (en E) ["java/lang/RuntimeException", "java/lang/Exception"], w.before args s = true ∧ vx_ot w = true := fun w hw => by
    rw [hc] at hw
    have h9 := List.all_eq_true.mp hat w hw
    rw [Bool.and_eq_true, Bool.and_eq_true, decide_eq_true_eq, Bool.or_eq_true] at h9
    refine ⟨?_, h9.2⟩
    rcases h9.1.2 with z | z
    · exact hts w (List.mem_filter.mpr ⟨h9.1.1, z⟩)
    · exact w_use (List.mem_filter.mpr ⟨h9.1.1, z⟩) (hG.2.2.2.2.2.1 w (List.mem_filter.mpr ⟨h9.1.1, z⟩))
  have hfit : Bundle.fit (en E) = true := en_fit E hE
  have hrc := roomy_c (B := B) (b := b) hq
  refine vx_throwS (names := ["java/lang/RuntimeException", "java/lang/Exception"]) hx hb hst hown hfit (by decide +kernel) (hts _ w1) (hts _ w2) (by rw [hc]; exact hsa) (fun w h9 => (hw w h9).1) (fun w h9 => ?_) hG.2.2.1 hG.2.2.2.1 hS (hl.choose_spec.1.1.trans hml.symm) d0 d3 d4 d6 d9 (by rw [htb, hh]; intro x h9; cases h9) (by show 2 + 3 < R.frames; omega) (by show _ + (13 * (2 + 1) + 43) ≤ R.locals; omega) (by omega) (by omega) hlk (fun t ht hz ho => ?_) hS.2.2 (by omega) (by omega)
  · rcases List.mem_cons.mp h9 with rfl | h9
    · rfl
    · rcases List.mem_cons.mp h9 with rfl | h9
      · rfl
      · exact (hw w h9).2
  · refine hXC t ht (hr_thr hH hz ho) ⟨Nat.le_trans hS.1 hz, fun q h1 h2 => ?_⟩
    rw [ho q (Nat.lt_of_lt_of_le h1 hS.1)]
    exact hS.2.1 q h1 h2
theorem so_min {index : Nat} (X : Cx B b L xs D aC p l R s m args meth c md d) (w1 : Cond.methodLink (dY md).cls index Lib.Math.min.name ∈ w_all) (w2 : Cond.static Lib.Math.min.name ∈ w_all) (w3 : Cond.initialized "java/lang/Math" ∈ w_all) (w4 : Cond.code Lib.Math.min.name Lib.Math.min.code 2 (some .int) ∈ w_all) (hd : decode (dB md) pc = .ok (.invokestatic index, 3)) : SO P B b L xs D aC p l e R s m args below meth c md d c0 s0 Q pc (mo_min (pc + 3)) := by
  obtain ⟨hx, hb, hml, hown, hts, hlk, hst, hK, hG, hRm, htb, hnm⟩ := X
  intro lsl stl h r hf
  unfold mo_min at hf
  split at hf
  · rename_i y x r0
    obtain ⟨hq, hf⟩ := bq hf
    obtain ⟨q1, hq⟩ := b2 hq
    obtain ⟨q2, q3⟩ := b2 hq
    obtain rfl := Option.some.inj hf
    have q3 := roomy_c (B := B) (b := b) q3
    refine so_nx ⟨Nat.le_refl _, Nat.le_refl _⟩ fun g1 g2 kk H locs ls cells slots hH hS hl hc hs => ?_
    refine va_mmin hx hb (hml.trans hl.choose_spec.1.1.symm) hown (hts _ w1) (hts _ w2) (hts _ w3) (hts _ w4) (by omega) (by omega) (by omega) (by omega) hd ?_
    have e : (if Int32.ofInt y < Int32.ofInt x then Int32.ofInt y else Int32.ofInt x) = Int32.ofInt (if y < x then y else x) := by
      by_cases z : y < x
      · rw [if_pos z, if_pos ((i32_lt q2 q1).mpr z)]
      · rw [if_neg z, if_neg (fun w => z ((i32_lt q2 q1).mp w))]
    rw [e]
    exact kk H locs ls cells slots hH hS hl hc hs
  · cases hf
/-- a handler that answers k -/
theorem wx_catch {E st en0 hpc ct n len0 : Nat} {k : Int} {pre suf : List (Nat × Nat × Nat × Nat)} {lsl : mLS} {h1 : mMH} (X : Cx B b L xs D aC p l R s m args meth c md d) (hE : E < 3) (hh : dH md = pre ++ (st, en0, hpc, ct) :: suf) (hcv : hcov (dH md) pc = true) (hct : ct ≠ 0) (hpass : ∀ z ∈ pre, z.2.2.2 ≠ 0 ∧ ∃ F, F < 3 ∧ E ≠ F ∧ Cond.classLink (dY md).cls z.2.2.2 (en F) ∈ w_all)
    (w1 : Cond.classLink (dY md).cls ct (en E) ∈ w_all) (w2 : Cond.castable (en E) (en E) ∈ w_bad) (hr0 : dT md = some .int) (hn : n < dL md)
    (d0 : (∃ f : Fin 4, (f : Nat) = n ∧ decode (dB md) hpc = .ok (.astore_n f, 1) ∧ len0 = 1) ∨ (decode (dB md) hpc = .ok (.astore n, 2) ∧ len0 = 2)) (d1 : decode (dB md) (hpc + len0) = .ok (.sipush k, 3)) (hk9 : (Int16.ofInt k).toInt32 = Int32.ofInt k) (d2 : decode (dB md) (hpc + len0 + 3) = .ok (.ireturn, 1)) (kk : WR B b D aC p l e R s m args below meth c md c0 s0 Q (some (vI k)) h1) : WX B b D aC p l e R s m args below meth c md c0 s0 Q E pc lsl h1 := by
  obtain ⟨hx, hb, hml, hown, hts, hlk, hst, hK, hG, hRm, htb, hnm⟩ := X
  intro H locs ls cells slots rest q ce hH hS hl hc hs hce hcv0 hcl
  have cov : ∀ z ∈ dH md, covers (⟨z.1, z.2.1, z.2.2.1, z.2.2.2⟩ : ExceptionTableEntry) pc = true := fun z hz => by
    have := List.all_eq_true.mp hcv z hz
    rw [Bool.and_eq_true] at this
    have q1 : z.1 ≤ pc := Nat.ble_eq.mp this.1
    have q2 : pc < z.2.1 := Nat.ble_eq.mp this.2
    simp [covers, q1, q2]
  refine vx_catch hown (tableOf pre) ⟨st, en0, hpc, ct⟩ (tableOf suf) (by rw [htb, hh]; simp [tableOf]) (fun z hz => ?_) (cov (st, en0, hpc, ct) (by rw [hh]; simp)) hct (hts _ w1) (w_use w2 (hG.2.2.2.2.2.1 _ w2)) hce hcv0 hcl ?_
  · obtain ⟨z0, h0, rfl⟩ := List.mem_map.mp hz
    obtain ⟨f1, F, f2, f3, f4⟩ := hpass z0 h0
    exact Or.inr ⟨f1, en F, hts _ f4, hG.2.2.2.2.2.2.2 E F hE f2 f3⟩
  · obtain ⟨lv, l1, l2, l3⟩ := hl
    have kf : ∀ ls9 : Array Slot, W p l e R s m args below meth c H locs cells slots Q (F0 m (hpc + len0) ls9 []) := fun ls9 => by
      refine lv_sipush hx hb d1 hk9 ?_
      exact kk H locs ls9 cells slots _ _ hH hS hc hs d2 (Or.inl ⟨rfl, k, rfl, Or.inl hr0⟩)
    rcases d0 with ⟨f, rfl, d0, rfl⟩ | ⟨d0, rfl⟩
    · exact lv_astore_n hx hb d0 rfl l1 hn rfl (fun ls9 _ => kf ls9)
    · exact lv_astore hx hb d0 l1 hn rfl (fun ls9 _ => kf ls9)
end SOE
