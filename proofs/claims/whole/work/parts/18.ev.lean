/-! ===== rules of the small machine ===== -/
def Ev (P : Nat → mMD) (d j pc : Nat) (ls : mLS) (st : mST) (h : mMH) (o : Option mMV ⊕ Nat) (h' : mMH) : Prop := ∃ n, run P n d j pc ls st h = some (o, h')
theorem run_mono {P : Nat → mMD} : ∀ (n d j pc : Nat) (ls : mLS) (st : mST) (h : mMH) (r : mRO), run P n d j pc ls st h = some r → run P (n + 1) d j pc ls st h = some r := by
  intro n
  induction n with
  | zero => intro d j pc ls st h r hr; cases hr
  | succ n IH =>
    intro d j pc ls st h r hr
    rw [run]
    rw [run] at hr
    cases hf : lk (dC (P j)) pc with
    | none => rw [hf] at hr; cases hr
    | some f =>
      rw [hf] at hr
      dsimp only at hr ⊢
      cases hq : f ls st h with
      | none => rw [hq] at hr; cases hr
      | some q =>
        rw [hq] at hr
        match q, hr with
        | .inl q, hr => exact IH _ _ _ _ _ _ _ hr
        | .inr (.inl q), hr => exact hr
        | .inr (.inr (.inl q)), hr => exact hr
        | .inr (.inr (.inr q)), hr =>
          dsimp only at hr ⊢
          match d, hr with
          | 0, hr => cases hr
          | d' + 1, hr =>
            dsimp only at hr ⊢
            obtain ⟨hlen, hr⟩ := bq hr
            rw [hlen]
            dsimp only [cond_true]
            cases hr1 : run P n d' q.1 0 (entL (dL (P q.1)) q.2.1) [] h with
            | none => rw [hr1] at hr; cases hr
            | some w =>
              rw [hr1] at hr
              rw [IH _ _ _ _ _ _ _ hr1]
              match w, hr with
              | (.inl v, h1), hr =>
                dsimp only at hr ⊢
                obtain ⟨hm, hr⟩ := bq hr
                rw [hm]
                exact IH _ _ _ _ _ _ _ hr
              | (.inr E, h1), hr => exact hr
theorem run_more {P : Nat → mMD} {n d j pc : Nat} {ls : mLS} {st : mST} {h : mMH} {r : mRO} (hr : run P n d j pc ls st h = some r) (k : Nat) : run P (n + k) d j pc ls st h = some r := by
  induction k with
  | zero => exact hr
  | succ k ih => exact run_mono _ _ _ _ _ _ _ _ ih
section EVR
variable {P : Nat → mMD} {d j pc : Nat} {ls : mLS} {st : mST} {h : mMH} {o : Option mMV ⊕ Nat} {h' : mMH} {f : mOP}
theorem ev_step {pc' : Nat} {ls' : mLS} {st' : mST} {h1 : mMH} (hf : lk (dC (P j)) pc = some f) (hs : f ls st h = some (.inl (pc', (ls', st'), h1))) (k : Ev P d j pc' ls' st' h1 o h') : Ev P d j pc ls st h o h' := by
  obtain ⟨n, hn⟩ := k
  refine ⟨n + 1, ?_⟩
  unfold run
  rw [hf]
  dsimp only
  rw [hs]
  exact hn
theorem ev_ret {v : Option mMV} (hf : lk (dC (P j)) pc = some f) (hs : f ls st h = some (.inr (.inl (v, h')))) : Ev P d j pc ls st h (.inl v) h' := by
  refine ⟨1, ?_⟩
  unfold run
  rw [hf]
  dsimp only
  rw [hs]
theorem ev_thr {E : Nat} (hd : 7 ≤ d) (hf : lk (dC (P j)) pc = some f) (hs : f ls st h = some (.inr (.inr (.inl (E, h'))))) : Ev P d j pc ls st h (.inr E) h' := by
  refine ⟨1, ?_⟩
  unfold run
  rw [hf]
  dsimp only
  rw [hs]
  dsimp only
  rw [show Nat.ble 7 d = true from Nat.ble_eq.mpr hd]
  rfl
theorem ev_call {i nx : Nat} {as : List mMV} {rest : mST} {v : Option mMV} {h1 : mMH} (hf : lk (dC (P j)) pc = some f) (hs : f ls st h = some (.inr (.inr (.inr (i, as, nx, rest))))) (hl : (argL as).length ≤ dL (P i)) (hc : Ev P d i 0 (entL (dL (P i)) as) [] h (.inl v) h1) (hm : mC h ≤ mC h1 ∧ mSl h ≤ mSl h1) (k : Ev P (d + 1) j nx ls (v.toList ++ rest) h1 o h') : Ev P (d + 1) j pc ls st h o h' := by
  obtain ⟨n1, hn1⟩ := hc
  obtain ⟨n2, hn2⟩ := k
  refine ⟨n1 + n2 + 1, ?_⟩
  unfold run
  rw [hf]
  dsimp only
  rw [hs]
  dsimp only
  rw [show Nat.ble (argL as).length (dL (P i)) = true from Nat.ble_eq.mpr hl, run_more hn1 n2]
  dsimp only [cond_true]
  rw [show Nat.ble (mC h) (mC h1) = true from Nat.ble_eq.mpr hm.1, show Nat.ble (mSl h) (mSl h1) = true from Nat.ble_eq.mpr hm.2, Nat.add_comm n1 n2]
  exact run_more hn2 n1
theorem ev_callX {i nx : Nat} {as : List mMV} {rest : mST} {E : Nat} {h1 : mMH} (hf : lk (dC (P j)) pc = some f) (hs : f ls st h = some (.inr (.inr (.inr (i, as, nx, rest))))) (hl : (argL as).length ≤ dL (P i)) (hc : Ev P d i 0 (entL (dL (P i)) as) [] h (.inr E) h1) (hm : mC h ≤ mC h1 ∧ mSl h ≤ mSl h1) (hx : dX (P j) = []) : Ev P (d + 1) j pc ls st h (.inr E) h1 := by
  obtain ⟨n1, hn1⟩ := hc
  refine ⟨n1 + 1, ?_⟩
  unfold run
  rw [hf]
  dsimp only
  rw [hs]
  dsimp only
  rw [show Nat.ble (argL as).length (dL (P i)) = true from Nat.ble_eq.mpr hl, hn1]
  dsimp only [cond_true]
  rw [show Nat.ble (mC h) (mC h1) = true from Nat.ble_eq.mpr hm.1, show Nat.ble (mSl h) (mSl h1) = true from Nat.ble_eq.mpr hm.2, hx]
  rfl
theorem ev_catch {i nx : Nat} {as : List mMV} {rest : mST} {E : Nat} {k : Int} {h1 : mMH} {q0 : Nat × Int} {qs : List (Nat × Int)} (hf : lk (dC (P j)) pc = some f) (hs : f ls st h = some (.inr (.inr (.inr (i, as, nx, rest))))) (hl : (argL as).length ≤ dL (P i)) (hc : Ev P d i 0 (entL (dL (P i)) as) [] h (.inr E) h1) (hm : mC h ≤ mC h1 ∧ mSl h ≤ mSl h1) (hx : dX (P j) = q0 :: qs) (hk : lx (q0 :: qs) E = some k) (hcv : hcov (dH (P j)) pc = true) : Ev P (d + 1) j pc ls st h (.inl (some (vI k))) h1 := by
  obtain ⟨n1, hn1⟩ := hc
  refine ⟨n1 + 1, ?_⟩
  unfold run
  rw [hf]
  dsimp only
  rw [hs]
  dsimp only
  rw [show Nat.ble (argL as).length (dL (P i)) = true from Nat.ble_eq.mpr hl, hn1]
  dsimp only [cond_true]
  rw [show Nat.ble (mC h) (mC h1) = true from Nat.ble_eq.mpr hm.1, show Nat.ble (mSl h) (mSl h1) = true from Nat.ble_eq.mpr hm.2, hx]
  dsimp only [Bool.and_self, cond_true]
  rw [hk]
  dsimp only
  rw [hcv]
  rfl
end EVR

def kdX : List (Nat × Nat) := [(9, 0), (0, 8), (0, 7), (0, 1), (6, 21), (1, 5), (4, 5), (1, 5), (1, 5), (1, 5), (1, 5), (1, 5), (0, 5), (1, 6), (1, 6), (0, 5), (1, 6), (1, 6), (0, 5), (1, 6), (1, 6), (0, 5), (1, 6), (1, 6), (0, 5), (1, 6), (1, 6), (0, 5), (1, 6), (1, 6), (0, 5), (1, 6), (1, 6), (0, 5), (1, 6), (1, 6), (0, 5), (1, 6), (1, 6), (0, 5), (1, 6), (1, 6), (0, 5), (1, 6), (1, 6), (0, 5), (1, 6), (1, 6), (0, 5), (1, 6), (1, 6), (0, 5), (1, 6), (1, 6), (0, 5), (1, 6), (1, 6), (0, 5), (1, 6), (1, 6), (0, 5), (1, 6), (1, 6), (0, 5), (1, 6), (1, 6), (0, 5), (1, 6), (1, 6), (0, 5), (1, 6), (1, 6), (0, 5), (1, 6), (1, 6), (0, 4), (1, 5), (1, 5), (0, 2), (4, 5), (1, 5), (1, 5), (1, 5), (1, 5), (1, 5), (4, 6), (1, 5), (1, 5), (1, 5), (1, 5), (1, 5), (1, 5), (0, 6), (7, 25), (5, 5), (2, 5), (2, 5), (2, 5), (2, 5), (2, 5), (5, 5), (2, 5), (2, 5), (2, 5), (2, 5), (2, 5), (0, 3), (2, 10), (1, 10), (0, 3), (2, 10), (1, 10), (0, 3), (2, 10), (1, 10), (0, 3), (2, 10), (1, 10), (0, 3), (2, 10), (1, 10), (0, 3), (2, 10), (1, 10), (0, 3), (2, 10), (1, 10), (0, 3), (2, 10), (1, 10), (0, 3), (2, 10), (1, 10), (0, 3), (2, 10), (1, 10), (0, 3), (2, 10), (1, 10), (0, 3), (2, 10), (1, 10), (0, 3), (2, 10), (1, 10), (0, 3), (2, 10), (1, 10), (0, 3), (2, 10), (1, 10), (0, 3), (2, 10), (1, 10), (0, 3), (2, 10), (1, 10), (0, 3), (2, 10), (1, 10), (0, 3), (2, 10), (1, 10), (0, 3), (2, 10), (1, 10), (0, 3), (2, 10), (1, 10), (0, 3), (2, 10), (1, 10), (0, 3), (2, 10), (1, 10), (0, 3), (2, 10), (1, 10), (0, 3), (2, 10), (1, 10), (0, 0), (1, 5), (2, 6), (1, 6), (0, 3), (2, 10), (1, 10), (1, 5), (2, 5)]
def rfX : List (Nat → Option Nat) := [r_no,
  ru (ru (ru (ru (ru (ru (ru (ru (ru r_no 0 (some 2)) 1 (some 3)) 2 (some 75)) 3 (some 78)) 4 (some 92)) 5 (some 181)) 6 (some 185)) 7 (some 188)) 8 (some 189),
  r_no,
  ru (ru (ru r_no 0 (some 4)) 1 (some 5)) 2 (some 6),
  ru (ru (ru (ru (ru (ru (ru (ru (ru (ru (ru (ru (ru (ru (ru (ru (ru (ru (ru (ru (ru r_no 0 (some 12)) 1 (some 15)) 2 (some 18)) 3 (some 21)) 4 (some 24)) 5 (some 27)) 6 (some 30)) 7 (some 33)) 8 (some 36)) 9 (some 39)) 10 (some 42)) 11 (some 45)) 12 (some 48)) 13 (some 51)) 14 (some 54)) 15 (some 57)) 16 (some 60)) 17 (some 63)) 18 (some 66)) 19 (some 69)) 20 (some 72),
  r_no,
  rowsR 6 5,
  r_no,
  r_no,
  r_no,
  r_no,
  r_no,
  ru (ru r_no 0 (some 13)) 1 (some 14),
  r_no,
  r_no,
  ru (ru r_no 0 (some 16)) 1 (some 17),
  r_no,
  r_no,
  ru (ru r_no 0 (some 19)) 1 (some 20),
  r_no,
  r_no,
  ru (ru r_no 0 (some 22)) 1 (some 23),
  r_no,
  r_no,
  ru (ru r_no 0 (some 25)) 1 (some 26),
  r_no,
  r_no,
  ru (ru r_no 0 (some 28)) 1 (some 29),
  r_no,
  r_no,
  ru (ru r_no 0 (some 31)) 1 (some 32),
  r_no,
  r_no,
  ru (ru r_no 0 (some 34)) 1 (some 35),
  r_no,
  r_no,
  ru (ru r_no 0 (some 37)) 1 (some 38),
  r_no,
  r_no,
  ru (ru r_no 0 (some 40)) 1 (some 41),
  r_no,
  r_no,
  ru (ru r_no 0 (some 43)) 1 (some 44),
  r_no,
  r_no,
  ru (ru r_no 0 (some 46)) 1 (some 47),
  r_no,
  r_no,
  ru (ru r_no 0 (some 49)) 1 (some 50),
  r_no,
  r_no,
  ru (ru r_no 0 (some 52)) 1 (some 53),
  r_no,
  r_no,
  ru (ru r_no 0 (some 55)) 1 (some 56),
  r_no,
  r_no,
  ru (ru r_no 0 (some 58)) 1 (some 59),
  r_no,
  r_no,
  ru (ru r_no 0 (some 61)) 1 (some 62),
  r_no,
  r_no,
  ru (ru r_no 0 (some 64)) 1 (some 65),
  r_no,
  r_no,
  ru (ru r_no 0 (some 67)) 1 (some 68),
  r_no,
  r_no,
  ru (ru r_no 0 (some 70)) 1 (some 71),
  r_no,
  r_no,
  ru (ru r_no 0 (some 73)) 1 (some 74),
  r_no,
  r_no,
  ru (ru r_no 0 (some 76)) 1 (some 77),
  r_no,
  r_no,
  ru (ru (ru (ru r_no 2 (some 79)) 3 (some 85)) 0 (some 3)) 1 (some 75),
  rowsR 79 5,
  r_no,
  r_no,
  r_no,
  r_no,
  r_no,
  rowsR 85 6,
  r_no,
  r_no,
  r_no,
  r_no,
  r_no,
  r_no,
  ru (ru (ru (ru r_no 1 (some 93)) 2 (some 94)) 3 (some 100)) 0 (some 78),
  ru (ru (ru (ru (ru (ru (ru (ru (ru (ru (ru (ru (ru (ru (ru (ru (ru (ru (ru (ru (ru (ru (ru (ru (ru r_no 0 (some 106)) 1 (some 109)) 2 (some 112)) 3 (some 115)) 4 (some 118)) 5 (some 121)) 6 (some 124)) 7 (some 127)) 8 (some 130)) 9 (some 133)) 10 (some 136)) 11 (some 139)) 12 (some 142)) 13 (some 145)) 14 (some 148)) 15 (some 151)) 16 (some 154)) 17 (some 157)) 18 (some 160)) 19 (some 163)) 20 (some 166)) 21 (some 169)) 22 (some 172)) 23 (some 175)) 24 (some 178),
  rowsR 94 5,
  r_no,
  r_no,
  r_no,
  r_no,
  r_no,
  rowsR 100 5,
  r_no,
  r_no,
  r_no,
  r_no,
  r_no,
  ru (ru r_no 0 (some 107)) 1 (some 108),
  r_no,
  r_no,
  ru (ru r_no 0 (some 110)) 1 (some 111),
  r_no,
  r_no,
  ru (ru r_no 0 (some 113)) 1 (some 114),
  r_no,
  r_no,
  ru (ru r_no 0 (some 116)) 1 (some 117),
  r_no,
  r_no,
  ru (ru r_no 0 (some 119)) 1 (some 120),
  r_no,
  r_no,
  ru (ru r_no 0 (some 122)) 1 (some 123),
  r_no,
  r_no,
  ru (ru r_no 0 (some 125)) 1 (some 126),
  r_no,
  r_no,
  ru (ru r_no 0 (some 128)) 1 (some 129),
  r_no,
  r_no,
  ru (ru r_no 0 (some 131)) 1 (some 132),
  r_no,
  r_no,
  ru (ru r_no 0 (some 134)) 1 (some 135),
  r_no,
  r_no,
  ru (ru r_no 0 (some 137)) 1 (some 138),
  r_no,
  r_no,
  ru (ru r_no 0 (some 140)) 1 (some 141),
  r_no,
  r_no,
  ru (ru r_no 0 (some 143)) 1 (some 144),
  r_no,
  r_no,
  ru (ru r_no 0 (some 146)) 1 (some 147),
  r_no,
  r_no,
  ru (ru r_no 0 (some 149)) 1 (some 150),
  r_no,
  r_no,
  ru (ru r_no 0 (some 152)) 1 (some 153),
  r_no,
  r_no,
  ru (ru r_no 0 (some 155)) 1 (some 156),
  r_no,
  r_no,
  ru (ru r_no 0 (some 158)) 1 (some 159),
  r_no,
  r_no,
  ru (ru r_no 0 (some 161)) 1 (some 162),
  r_no,
  r_no,
  ru (ru r_no 0 (some 164)) 1 (some 165),
  r_no,
  r_no,
  ru (ru r_no 0 (some 167)) 1 (some 168),
  r_no,
  r_no,
  ru (ru r_no 0 (some 170)) 1 (some 171),
  r_no,
  r_no,
  ru (ru r_no 0 (some 173)) 1 (some 174),
  r_no,
  r_no,
  ru (ru r_no 0 (some 176)) 1 (some 177),
  r_no,
  r_no,
  ru (ru r_no 0 (some 179)) 1 (some 180),
  r_no,
  r_no,
  ru (ru (ru (ru r_no 1 (some 182)) 2 (some 183)) 3 (some 184)) 0 (some 78),
  r_no,
  r_no,
  r_no,
  ru (ru r_no 0 (some 186)) 1 (some 187),
  r_no,
  r_no,
  r_no,
  r_no]
def hX0 : mMH := (((2, true), (1, 9), [(9, 0), (0, 8)], [r_no, r_no]), fun _ _ => 0)
def hX1 : mMH := (((190, true), (189, 1209), kdX, rfX), fun _ _ => 0)
set_option maxRecDepth 1000000 in
set_option maxHeartbeats 4000000 in
theorem ctor_t : (run (PP 0 (fun _ => 0)) 1400 10 61 0 (entL 1 [vR (some 1)]) [] hX0).map (fun q => (q.2.1.1, q.2.1.2.1, q.2.1.2.2.1)) = some ((190, true), (189, 1209), kdX) := by decide +kernel

