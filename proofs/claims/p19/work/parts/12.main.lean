/-! ===== a run of the small machine is a run of the machine ===== -/
def AllS (P : Nat → mMD) (L : Nat) (xs : Nat → Int32) : Prop := ∀ (j pc : Nat) (f : mOP), lk (dC (P j)) pc = some f → ∀ (B b : Nat) (D : va_G) (aC : Nat → ClassId) (p : Program) (l : Launch) (e : Env) (R : Room) (s : State) (m : MethodId) (args : Array Value) (below : List Frame) (meth : Method) (c : Code) (d c0 s0 : Nat) (Q : State → Prop), Cx B b L xs D aC p l R s m args meth c (P j) d → SO P B b L xs D aC p l e R s m args below meth c (P j) d c0 s0 Q pc f
def AllM (P : Nat → mMD) (L : Nat) (xs : Nat → Int32) : Prop := ∀ j : Nat, dL (P j) ≤ 20 ∧ plainName (dY (P j)).cls = true ∧ ((dX (P j) = [] ∧ dH (P j) = []) ∨ (dX (P j) ≠ [] ∧ dH (P j) ≠ [] ∧ ∀ (E : Nat) (k : Int), lx (dX (P j)) E = some k → ∀ (B b : Nat) (D : va_G) (aC : Nat → ClassId) (p : Program) (l : Launch) (e : Env) (R : Room) (s : State) (m : MethodId) (args : Array Value) (below : List Frame) (meth : Method) (c : Code) (d c0 s0 : Nat) (Q : State → Prop) (pc : Nat) (lsl : mLS) (h1 : mMH), Cx B b L xs D aC p l R s m args meth c (P j) d → hcov (dH (P j)) pc = true →
    WR B b D aC p l e R s m args below meth c (P j) c0 s0 Q (some (vI k)) h1 → WX B b D aC p l e R s m args below meth c (P j) c0 s0 Q E pc lsl h1))
section SOZ
variable {P : Nat → mMD} {L : Nat} {xs : Nat → Int32}

theorem ent_len (B b : Nat) : ∀ as : List mMV, (lg_sl (as.map (eV B b))).length = (argL as).length
  | [] => rfl
  | .inl x :: r => by
    have := ent_len B b r
    simp only [lg_sl] at this ⊢
    simp [argL, eV, Value.category] at this ⊢
    exact this
  | .inr (.inl x) :: r => by
    have := ent_len B b r
    simp only [lg_sl] at this ⊢
    simp [argL, eV, Value.category] at this ⊢
    omega
  | .inr (.inr none) :: r => by
    have := ent_len B b r
    simp only [lg_sl] at this ⊢
    simp [argL, eV, eR, va_rf, Value.category] at this ⊢
    exact this
  | .inr (.inr (some k)) :: r => by
    have := ent_len B b r
    simp only [lg_sl] at this ⊢
    simp [argL, eV, eR, va_rf, Value.category] at this ⊢
    exact this
theorem ent_at (B b : Nat) : ∀ (as : List mMV) (o i : Nat) (v : mMV), (argL as)[i]? = some (some v) → (o + i, eV B b v) ∈ lv_args o (as.map (eV B b))
  | [], o, i, v, h => by simp [argL] at h
  | .inr (.inl x) :: r, o, i, v, h => by
    show _ ∈ (o, eV B b (.inr (.inl x))) :: lv_args (if (eV B b (.inr (.inl x))).category = 2 then o + 2 else o + 1) (r.map (eV B b))
    match i, h with
    | 0, h => cases h; exact List.mem_cons_self
    | 1, h => cases h
    | i + 2, h =>
      have := ent_at B b r (o + 2) i v h
      rw [show o + 2 + i = o + (i + 2) by omega] at this
      exact List.mem_cons_of_mem _ this
  | .inl x :: r, o, i, v, h => by
    show _ ∈ (o, eV B b (.inl x)) :: lv_args (if (eV B b (.inl x)).category = 2 then o + 2 else o + 1) (r.map (eV B b))
    match i, h with
    | 0, h => cases h; exact List.mem_cons_self
    | i + 1, h =>
      have := ent_at B b r (o + 1) i v h
      rw [show o + 1 + i = o + (i + 1) by omega] at this
      exact List.mem_cons_of_mem _ this
  | .inr (.inr k) :: r, o, i, v, h => by
    have hc : (eV B b (.inr (.inr k))).category = 1 := cat_eV B b _
    show _ ∈ (o, eV B b (.inr (.inr k))) :: lv_args (if (eV B b (.inr (.inr k))).category = 2 then o + 2 else o + 1) (r.map (eV B b))
    rw [hc]
    match i, h with
    | 0, h => cases h; exact List.mem_cons_self
    | i + 1, h =>
      have := ent_at B b r (o + 1) i v h
      rw [show o + 1 + i = o + (i + 1) by omega] at this
      exact List.mem_cons_of_mem _ this
theorem ent_ls {B b n : Nat} {as : List mMV} (hn : (argL as).length ≤ n) : lsR B b n (entL n as) ((lg_sl (as.map (eV B b)) ++ List.replicate (n - (lg_sl (as.map (eV B b))).length) Slot.unset).toArray) := by
  refine ⟨_, lv_entry (as.map (eV B b)) (by rw [ent_len]; exact hn), by unfold entL; simp; omega, fun i v h => ?_⟩
  unfold entL at h
  by_cases q : i < (argL as).length
  · rw [List.getElem?_append_left q] at h
    have := ent_at B b as 0 i v h
    rw [Nat.zero_add] at this
    exact this
  · rw [List.getElem?_append_right (by omega), List.getElem?_replicate] at h
    split at h
    · cases h
    · cases h
/-- what a frame owes at its end -/
def Fin9 (B b : Nat) (D : va_G) (aC : Nat → ClassId) (p : Program) (l : Launch) (e : Env) (R : Room) (s : State) (m : MethodId) (args : Array Value) (below : List Frame) (meth : Method) (c : Code) (md : mMD) (c0 s0 : Nat) (Q : State → Prop) (o : Option mMV ⊕ Nat) (h : mMH) : Prop := match o with
  | .inl v => WR B b D aC p l e R s m args below meth c md c0 s0 Q v h
  | .inr E => TQ B b D aC s args below c0 s0 Q E h
/-- what is to be shown of n steps -/
def RunW (P : Nat → mMD) (L : Nat) (xs : Nat → Int32) (n : Nat) : Prop := ∀ (d j pc : Nat) (lsl : mLS) (stl : mST) (h : mMH) (o : Option mMV ⊕ Nat) (h' : mMH), run P n d j pc lsl stl h = some (o, h') → ∀ (B b : Nat) (D : va_G) (aC : Nat → ClassId) (p : Program) (l : Launch) (e : Env) (R : Room) (s : State) (m : MethodId) (args : Array Value) (below : List Frame) (meth : Method) (c : Code) (c0 s0 : Nat) (Q : State → Prop),
  Cx B b L xs D aC p l R s m args meth c (P j) d → (mC h ≤ mC h' ∧ mSl h ≤ mSl h') ∧ (mC h' ≤ c0 + R.cells → mSl h' ≤ s0 + R.slots → Fin9 B b D aC p l e R s m args below meth c (P j) c0 s0 Q o h' → WP B b D aC p l e R s m args below meth c (P j) c0 s0 Q pc lsl stl h)
theorem wr_met {B b : Nat} {D : va_G} {aC : Nat → ClassId} {p : Program} {l : Launch} {e : Env} {R : Room} {s : State} {m : MethodId} {args : Array Value} {below : List Frame} {meth : Method} {c : Code} {md : mMD} {d : Nat} {v : Option mMV} {h h1 : mMH} {XC : String → State → State → Prop} (X : Cx B b L xs D aC p l R s m args meth c md d) (hr : meth.sig.returnType = dT md) :
    WR B b D aC p l e R s m args below meth c md (mC h) (mSl h) (vx_MQ below (QcM B b D aC v h1) XC args s (mC h1 - mC h) (mSl h1 - mSl h) (fun q => B < q)) v h1 := by
  obtain ⟨hx, hb, hml, hown, hts, hlk, hst, hK, hG, hRm, htb, hnm⟩ := X
  intro H locs ls cells slots pc ig hH hS hc hs hd hig
  have e1 : mC h1 - mC h = cells := by omega
  have e2 : mSl h1 - mSl h = slots := by omega
  rw [e1, e2]
  have hq : ∀ t : State, t.heap = H → s.WarmedH t.vm → QcM B b D aC v h1 args s (.returned (v.map (eV B b))) t := fun t ht hW => ⟨rfl, by rw [ht]; exact hH, hS.F ht⟩
  refine vx_ret ?_
  rcases hig with ⟨rfl, x, rfl, h9 | ⟨h9, hz⟩⟩ | ⟨rfl, x, rfl, h9⟩ | ⟨rfl, a, C, rfl, h9⟩ | ⟨rfl, rfl, h9⟩
  · exact W.iret (v := Int32.ofInt x) hx hb (hr.trans h9) hq hS.2.2 hd hlk
  · exact W.zret (v := Int32.ofInt x) hx hb (hr.trans h9) (by rcases hz with rfl | rfl <;> rfl) hq hS.2.2 hd hlk
  · exact W.lret (v := Int64.ofInt x) hx hb (hr.trans h9) hq hS.2.2 hd hlk
  · exact W.aret (v := .ref (adr B b a)) hx hb (hr.trans h9) (Or.inl ⟨C, rfl⟩) (Or.inr ⟨_, rfl⟩) hq hS.2.2 hd hlk
  · exact W.vret hx hb (hr.trans h9) hq hS.2.2 hd hlk
theorem cm_of {n d' i : Nat} {as : List mMV} {h h1 : mMH} {o : Option mMV ⊕ Nat} (hM : AllM P L xs) (IH : RunW P L xs n) (hrun : run P n d' i 0 (entL (dL (P i)) as) [] h = some (o, h1)) (hlen : (argL as).length ≤ dL (P i)) (hmc : mC h ≤ mC h1) (hms : mSl h ≤ mSl h1) (B b : Nat) (D : va_G) (aC : Nat → ClassId) (l : Launch) (hst : l.stackTraces = false) : CM B b L xs D aC l (P i) d' as h o h1 := by
  have key : ∀ (Qc : Array Value → State → Outcome → State → Prop) (XC : String → State → State → Prop), (∀ (p : Program) (e : Env) (R : Room) (s : State) (m : MethodId) (args : Array Value) (below : List Frame) (meth : Method) (c : Code), Cx B b L xs D aC p l R s m args meth c (P i) d' → meth.sig.returnType = dT (P i) → Fin9 B b D aC p l e R s m args below meth c (P i) (mC h) (mSl h) (vx_MQ below Qc XC args s (mC h1 - mC h) (mSl h1 - mSl h) (fun q => B < q)) o h1) →
      vx_Met l (dY (P i)) (wC (P i) :: w_all) { frames := d' + 1, cells := mC h1 - mC h, slots := mSl h1 - mSl h, locals := 40 + 39 * d' } (PcM B b L xs D aC as h) Qc XC (mC h1 - mC h) (mSl h1 - mSl h) (fun q => B < q) := by
    intro Qc XC hFin
    have body : ∀ (p : Program) (e : Env) (s : State) (m : MethodId) (args : Array Value) (below : List Frame) (meth : Method) (c : Code) (s₁ : State), BodyLoose p l (dY (P i)) (headSpec (wC (P i) :: w_all) { frames := d' + 1, cells := mC h1 - mC h, slots := mSl h1 - mSl h, locals := 40 + 39 * d' }) (dB (P i)) (dL (P i)) (dT (P i)) e s m args below meth c s₁ → c.maxLocals = dL (P i) → c.exceptionTable.toList = tableOf (dH (P i)) → PcM B b L xs D aC as h args s →
        W p l e { frames := d' + 1, cells := mC h1 - mC h, slots := mSl h1 - mSl h, locals := 40 + 39 * d' } s m args below meth c s.heap [] 0 0 (vx_MQ below Qc XC args s (mC h1 - mC h) (mSl h1 - mSl h) (fun q => B < q)) (entryFrame m args (dL (P i))) := by
      intro p e s m args below meth c s₁ Bd hml htb hPc
      obtain ⟨rfl, hH, hK, hG⟩ := hPc
      have hts := atoms_spec (ws := wC (P i) :: w_all) Bd.pre
      have X : Cx B b L xs D aC p l { frames := d' + 1, cells := mC h1 - mC h, slots := mSl h1 - mSl h, locals := 40 + 39 * d' } s m (as.map (eV B b)).toArray meth c (P i) d' := ⟨Bd.exec, Bd.bytes, hml, findClass_of_methodNamed Bd.named, fun w hw => hts w (List.mem_cons_of_mem _ hw), Bd.notSynchronized, hst, hK, hG, ⟨Nat.le_refl _, Nat.le_refl _⟩, htb, (name_of_methodNamed Bd.named Bd.method).1⟩
      have k := (IH d' i 0 _ _ h o h1 hrun B b D aC p l e _ s m _ below meth c (mC h) (mSl h) _ X).2 (by show mC h1 ≤ mC h + (mC h1 - mC h); omega) (by show mSl h1 ≤ mSl h + (mSl h1 - mSl h); omega) (hFin p e _ s m _ below meth c X Bd.returns)
      rw [lg_entry_eq]
      exact k s.heap [] _ 0 0 hH va_S.rf (ent_ls hlen) rfl rfl
    obtain ⟨hL11, hpl, hXH⟩ := hM i
    cases hq : dH (P i) with
    | nil =>
      refine vx_ofW (cc := dB (P i)) (maxL := dL (P i)) (ret := dT (P i)) hpl (by rw [wc_code hq]) fun p e s m args below meth c s₁ Bd hml hno hPc => body p e s m args below meth c s₁ Bd hml ?_ hPc
      rw [hq]
      cases hz : c.exceptionTable.toList with
      | nil => rfl
      | cons a r => exact absurd (hno a (by rw [hz]; exact List.mem_cons_self)) id
    | cons q0 qs =>
      refine vx_ofWH (cc := dB (P i)) (maxL := dL (P i)) (ret := dT (P i)) (hh := q0 :: qs) hpl (by unfold wC; rw [hq]) fun p e s m args below meth c s₁ Bd hml hPc => body p e s m args below meth c s₁ Bd hml ?_ hPc
      rw [hq]
      exact vx_table (x := dY (P i)) Bd (atoms_spec (ws := wC (P i) :: w_all) Bd.pre _ (by unfold wC; rw [hq]; exact List.mem_cons_self))
  cases o with
  | inl v => exact key _ _ fun p e R s m args below meth c X hr => wr_met X hr
  | inr E => exact key _ _ fun p e R s m args below meth c X hr => ⟨_, _, _, _, rfl, fun t ht hh hF => ⟨rfl, hh, hF⟩, by omega, by omega⟩
theorem run_W (hS : AllS P L xs) (hM : AllM P L xs) : ∀ n, RunW P L xs n := by
  intro n
  induction n with
  | zero => intro d j pc lsl stl h o h' hrun; cases hrun
  | succ n IH =>
    intro d j pc lsl stl h o h' hrun B b D aC p l e R s m args below meth c c0 s0 Q X
    unfold run at hrun
    split at hrun
    · cases hrun
    · rename_i f hf
      have hso := hS j pc f hf B b D aC p l e R s m args below meth c d c0 s0 Q X
      split at hrun
      · cases hrun
      · rename_i q hq
        obtain ⟨⟨a1, a2⟩, a3⟩ := hso lsl stl h _ hq
        obtain ⟨⟨b1, b2⟩, b3⟩ := IH _ _ _ _ _ _ _ _ hrun B b D aC p l e R s m args below meth c c0 s0 Q X
        exact ⟨⟨Nat.le_trans a1 b1, Nat.le_trans a2 b2⟩, fun g1 g2 g3 => a3 (Nat.le_trans b1 g1) (Nat.le_trans b2 g2) (b3 g1 g2 g3)⟩
      · rename_i q hq
        obtain ⟨rfl, rfl⟩ := Prod.mk.inj (Option.some.inj hrun)
        obtain ⟨a1, a2⟩ := hso lsl stl h _ hq
        rw [a1]
        exact ⟨⟨Nat.le_refl _, Nat.le_refl _⟩, fun g1 g2 g3 => a2 g3⟩
      · rename_i q hq
        obtain ⟨h7, hrun⟩ := bq hrun
        obtain ⟨rfl, rfl⟩ := Prod.mk.inj (Option.some.inj hrun)
        obtain ⟨a1, a2⟩ := hso lsl stl h _ hq
        exact ⟨a1, fun g1 g2 g3 => a2 (Nat.ble_eq.mp h7) g1 g2 g3⟩
      · rename_i q hq
        have hcall := hso lsl stl h _ hq
        split at hrun
        · cases hrun
        · rename_i d'
          obtain ⟨hlen, hrun⟩ := bq hrun
          have hlen := Nat.ble_eq.mp hlen
          split at hrun
          · cases hrun
          · rename_i v h1 hr1
            obtain ⟨hm, hrun⟩ := bq hrun
            obtain ⟨hm1, hm2⟩ := b2 hm
            have hm1 := Nat.ble_eq.mp hm1
            have hm2 := Nat.ble_eq.mp hm2
            obtain ⟨⟨b1, b2⟩, b3⟩ := IH _ _ _ _ _ _ _ _ hrun B b D aC p l e R s m args below meth c c0 s0 Q X
            refine ⟨⟨Nat.le_trans hm1 b1, Nat.le_trans hm2 b2⟩, fun g1 g2 g3 => ?_⟩
            exact hcall d' (.inl v) h1 rfl hm1 hm2 (Nat.le_trans b1 g1) (Nat.le_trans b2 g2) (hM _).1 (cm_of hM IH hr1 hlen hm1 hm2 B b D aC l X.2.2.2.2.2.2.1) (b3 g1 g2 g3)
          · rename_i E h1 hr1
            obtain ⟨hm, hrun⟩ := bq hrun
            obtain ⟨hm1, hm2⟩ := b2 hm
            have hm1 := Nat.ble_eq.mp hm1
            have hm2 := Nat.ble_eq.mp hm2
            have hMj := (hM j).2.2
            split at hrun
            · rename_i hX0
              obtain ⟨rfl, rfl⟩ := Prod.mk.inj (Option.some.inj hrun)
              refine ⟨⟨hm1, hm2⟩, fun g1 g2 g3 => ?_⟩
              refine hcall d' (.inr E) h1 rfl hm1 hm2 g1 g2 (hM _).1 (cm_of hM IH hr1 hlen hm1 hm2 B b D aC l X.2.2.2.2.2.2.1) ?_
              obtain ⟨Qc, XC, mc, ms, rfl, hXC, hmc, hms⟩ := g3
              have hH0 : dH (P j) = [] := by
                rcases hMj with z | z
                · exact z.2
                · exact absurd hX0 z.1
              intro H locs ls cells slots rest q9 ce hH hS9 hl hc hs hce hcv hcl
              exact vx_out (by rw [X.2.2.2.2.2.2.2.2.2.2.1, hH0]; intro x hx; cases hx) X.2.2.2.2.2.1 hce hcv hcl (fun t ht hal => hXC t hal (by rw [ht]; exact hH) (hS9.F ht)) hS9.2.2 (by omega) (by omega)
            · rename_i q0 qs hX0
              split at hrun
              · cases hrun
              · rename_i k hk
                obtain ⟨hcv, hrun⟩ := bq hrun
                obtain ⟨rfl, rfl⟩ := Prod.mk.inj (Option.some.inj hrun)
                refine ⟨⟨hm1, hm2⟩, fun g1 g2 g3 => ?_⟩
                refine hcall d' (.inr E) h1 rfl hm1 hm2 g1 g2 (hM _).1 (cm_of hM IH hr1 hlen hm1 hm2 B b D aC l X.2.2.2.2.2.2.1) ?_
                rcases hMj with z | z
                · rw [z.1] at hX0; cases hX0
                · exact z.2.2 E k (by rw [hX0]; exact hk) B b D aC p l e R s m args below meth c _ c0 s0 Q pc lsl h1 X hcv g3
end SOZ
