/-! ===== rules of the small machine ===== -/
def Ev (P : Nat → mMD) (d j pc : Nat) (ls : mLS) (st : mST) (h : mMH) (o : Option mMV ⊕ Nat) (h' : mMH) : Prop := ∃ n, run P n d j pc ls st h = some (o, h')
theorem run_mono {P : Nat → mMD} : ∀ (n d j pc : Nat) (ls : mLS) (st : mST) (h : mMH) (r : mRO), run P n d j pc ls st h = some r → run P (n + 1) d j pc ls st h = some r := by
  intro n
  induction n with
  | zero => intro d j pc ls st h r hr; cases hr
  | succ n IH =>
    intro d j pc ls st h r hr
    rw [run]
    rw [run] at hr
    cases hf : lk (dC (P j)) pc with
    | none => rw [hf] at hr; cases hr
    | some f =>
      rw [hf] at hr
      dsimp only at hr ⊢
      cases hq : f ls st h with
      | none => rw [hq] at hr; cases hr
      | some q =>
        rw [hq] at hr
        match q, hr with
        | .inl q, hr => exact IH _ _ _ _ _ _ _ hr
        | .inr (.inl q), hr => exact hr
        | .inr (.inr (.inl q)), hr => exact hr
        | .inr (.inr (.inr q)), hr =>
          dsimp only at hr ⊢
          match d, hr with
          | 0, hr => cases hr
          | d' + 1, hr =>
            dsimp only at hr ⊢
            obtain ⟨hlen, hr⟩ := bq hr
            rw [hlen]
            dsimp only [cond_true]
            cases hr1 : run P n d' q.1 0 (entL (dL (P q.1)) q.2.1) [] h with
            | none => rw [hr1] at hr; cases hr
            | some w =>
              rw [hr1] at hr
              rw [IH _ _ _ _ _ _ _ hr1]
              match w, hr with
              | (.inl v, h1), hr =>
                dsimp only at hr ⊢
                obtain ⟨hm, hr⟩ := bq hr
                rw [hm]
                exact IH _ _ _ _ _ _ _ hr
              | (.inr E, h1), hr => exact hr
theorem run_more {P : Nat → mMD} {n d j pc : Nat} {ls : mLS} {st : mST} {h : mMH} {r : mRO} (hr : run P n d j pc ls st h = some r) (k : Nat) : run P (n + k) d j pc ls st h = some r := by
  induction k with
  | zero => exact hr
  | succ k ih => exact run_mono _ _ _ _ _ _ _ _ ih
section EVR
variable {P : Nat → mMD} {d j pc : Nat} {ls : mLS} {st : mST} {h : mMH} {o : Option mMV ⊕ Nat} {h' : mMH} {f : mOP}
theorem ev_step {pc' : Nat} {ls' : mLS} {st' : mST} {h1 : mMH} (hf : lk (dC (P j)) pc = some f) (hs : f ls st h = some (.inl (pc', (ls', st'), h1))) (k : Ev P d j pc' ls' st' h1 o h') : Ev P d j pc ls st h o h' := by
  obtain ⟨n, hn⟩ := k
  refine ⟨n + 1, ?_⟩
  unfold run
  rw [hf]
  dsimp only
  rw [hs]
  exact hn
theorem ev_ret {v : Option mMV} (hf : lk (dC (P j)) pc = some f) (hs : f ls st h = some (.inr (.inl (v, h')))) : Ev P d j pc ls st h (.inl v) h' := by
  refine ⟨1, ?_⟩
  unfold run
  rw [hf]
  dsimp only
  rw [hs]
theorem ev_thr {E : Nat} (hd : 7 ≤ d) (hf : lk (dC (P j)) pc = some f) (hs : f ls st h = some (.inr (.inr (.inl (E, h'))))) : Ev P d j pc ls st h (.inr E) h' := by
  refine ⟨1, ?_⟩
  unfold run
  rw [hf]
  dsimp only
  rw [hs]
  dsimp only
  rw [show Nat.ble 7 d = true from Nat.ble_eq.mpr hd]
  rfl
theorem ev_call {i nx : Nat} {as : List mMV} {rest : mST} {v : Option mMV} {h1 : mMH} (hf : lk (dC (P j)) pc = some f) (hs : f ls st h = some (.inr (.inr (.inr (i, as, nx, rest))))) (hl : (argL as).length ≤ dL (P i)) (hc : Ev P d i 0 (entL (dL (P i)) as) [] h (.inl v) h1) (hm : mC h ≤ mC h1 ∧ mSl h ≤ mSl h1) (k : Ev P (d + 1) j nx ls (v.toList ++ rest) h1 o h') : Ev P (d + 1) j pc ls st h o h' := by
  obtain ⟨n1, hn1⟩ := hc
  obtain ⟨n2, hn2⟩ := k
  refine ⟨n1 + n2 + 1, ?_⟩
  unfold run
  rw [hf]
  dsimp only
  rw [hs]
  dsimp only
  rw [show Nat.ble (argL as).length (dL (P i)) = true from Nat.ble_eq.mpr hl, run_more hn1 n2]
  dsimp only [cond_true]
  rw [show Nat.ble (mC h) (mC h1) = true from Nat.ble_eq.mpr hm.1, show Nat.ble (mSl h) (mSl h1) = true from Nat.ble_eq.mpr hm.2, Nat.add_comm n1 n2]
  exact run_more hn2 n1
theorem ev_callX {i nx : Nat} {as : List mMV} {rest : mST} {E : Nat} {h1 : mMH} (hf : lk (dC (P j)) pc = some f) (hs : f ls st h = some (.inr (.inr (.inr (i, as, nx, rest))))) (hl : (argL as).length ≤ dL (P i)) (hc : Ev P d i 0 (entL (dL (P i)) as) [] h (.inr E) h1) (hm : mC h ≤ mC h1 ∧ mSl h ≤ mSl h1) (hx : dX (P j) = []) : Ev P (d + 1) j pc ls st h (.inr E) h1 := by
  obtain ⟨n1, hn1⟩ := hc
  refine ⟨n1 + 1, ?_⟩
  unfold run
  rw [hf]
  dsimp only
  rw [hs]
  dsimp only
  rw [show Nat.ble (argL as).length (dL (P i)) = true from Nat.ble_eq.mpr hl, hn1]
  dsimp only [cond_true]
  rw [show Nat.ble (mC h) (mC h1) = true from Nat.ble_eq.mpr hm.1, show Nat.ble (mSl h) (mSl h1) = true from Nat.ble_eq.mpr hm.2, hx]
  rfl
theorem ev_catch {i nx : Nat} {as : List mMV} {rest : mST} {E : Nat} {k : Int} {h1 : mMH} {q0 : Nat × Int} {qs : List (Nat × Int)} (hf : lk (dC (P j)) pc = some f) (hs : f ls st h = some (.inr (.inr (.inr (i, as, nx, rest))))) (hl : (argL as).length ≤ dL (P i)) (hc : Ev P d i 0 (entL (dL (P i)) as) [] h (.inr E) h1) (hm : mC h ≤ mC h1 ∧ mSl h ≤ mSl h1) (hx : dX (P j) = q0 :: qs) (hk : lx (q0 :: qs) E = some k) (hcv : hcov (dH (P j)) pc = true) : Ev P (d + 1) j pc ls st h (.inl (some (vI k))) h1 := by
  obtain ⟨n1, hn1⟩ := hc
  refine ⟨n1 + 1, ?_⟩
  unfold run
  rw [hf]
  dsimp only
  rw [hs]
  dsimp only
  rw [show Nat.ble (argL as).length (dL (P i)) = true from Nat.ble_eq.mpr hl, hn1]
  dsimp only [cond_true]
  rw [show Nat.ble (mC h) (mC h1) = true from Nat.ble_eq.mpr hm.1, show Nat.ble (mSl h) (mSl h1) = true from Nat.ble_eq.mpr hm.2, hx]
  dsimp only [Bool.and_self, cond_true]
  rw [hk]
  dsimp only
  rw [hcv]
  rfl
end EVR

