/-! ===== deeper calls, a goal with its end left open, rules for the law's own ops ===== -/
theorem run_up {P : Nat → mMD} : ∀ (n d j pc : Nat) (ls : mLS) (st : mST) (h : mMH) (r : mRO), run P n d j pc ls st h = some r → run P n (d + 1) j pc ls st h = some r := by
  intro n
  induction n with
  | zero => intro d j pc ls st h r hr; cases hr
  | succ n IH =>
    intro d j pc ls st h r hr
    rw [run]
    rw [run] at hr
    cases hf : lk (dC (P j)) pc with
    | none => rw [hf] at hr; cases hr
    | some f =>
      rw [hf] at hr
      dsimp only at hr ⊢
      cases hq : f ls st h with
      | none => rw [hq] at hr; cases hr
      | some q =>
        rw [hq] at hr
        match q, hr with
        | .inl q, hr => exact IH _ _ _ _ _ _ _ hr
        | .inr (.inl q), hr => exact hr
        | .inr (.inr (.inl q)), hr =>
          dsimp only at hr ⊢
          obtain ⟨h7, hr⟩ := bq hr
          rw [show Nat.ble 7 (d + 1) = true from Nat.ble_eq.mpr (Nat.le_succ_of_le (Nat.ble_eq.mp h7))]
          exact hr
        | .inr (.inr (.inr q)), hr =>
          dsimp only at hr ⊢
          match d, hr with
          | 0, hr => cases hr
          | d' + 1, hr =>
            dsimp only at hr ⊢
            obtain ⟨hlen, hr⟩ := bq hr
            rw [hlen]
            dsimp only [cond_true]
            cases hr1 : run P n d' q.1 0 (entL (dL (P q.1)) q.2.1) [] h with
            | none => rw [hr1] at hr; cases hr
            | some w =>
              rw [hr1] at hr
              rw [IH _ _ _ _ _ _ _ hr1]
              match w, hr with
              | (.inl v, h1), hr =>
                dsimp only at hr ⊢
                obtain ⟨hm, hr⟩ := bq hr
                rw [hm]
                exact IH _ _ _ _ _ _ _ hr
              | (.inr E, h1), hr => exact hr
theorem ev_up {P : Nat → mMD} {d j pc : Nat} {ls : mLS} {st : mST} {h h' : mMH} {o : Option mMV ⊕ Nat} (k : Ev P d j pc ls st h o h') : Ev P (d + 1) j pc ls st h o h' := by
  obtain ⟨n, hn⟩ := k
  exact ⟨n, run_up _ _ _ _ _ _ _ _ hn⟩
theorem ev_to {P : Nat → mMD} {d j pc : Nat} {ls : mLS} {st : mST} {h h' : mMH} {o : Option mMV ⊕ Nat} (k : Ev P d j pc ls st h o h') {e : Nat} (he : d ≤ e) : Ev P e j pc ls st h o h' := by
  obtain ⟨c, rfl⟩ : ∃ c, e = d + c := ⟨e - d, by omega⟩
  induction c with
  | zero => exact k
  | succ c ih => exact ev_up (ih (Nat.le_add_right _ _))
def Tg (L : Nat) (xs : Nat → Int32) (d j pc : Nat) (ls : mLS) (st : mST) (h : mMH) (Q : Option mMV ⊕ Nat → mMH → Prop) : Prop := ∃ o h', Ev (PP L xs) d j pc ls st h o h' ∧ Q o h'
theorem tg {L : Nat} {xs : Nat → Int32} {d j pc d1 j1 pc1 : Nat} {ls ls1 : mLS} {st st1 : mST} {h h1 : mMH} {Q : Option mMV ⊕ Nat → mMH → Prop} (f : ∀ o h', Ev (PP L xs) d1 j1 pc1 ls1 st1 h1 o h' → Ev (PP L xs) d j pc ls st h o h') (k : Tg L xs d1 j1 pc1 ls1 st1 h1 Q) : Tg L xs d j pc ls st h Q := by
  obtain ⟨o, h', hE, hQ⟩ := k
  exact ⟨o, h', f o h' hE, hQ⟩
section EVL
variable {L : Nat} {xs : Nat → Int32} {d j pc nx : Nat} {ls : mLS} {st : mST} {t : Bool × Nat × Nat} {m : mMM} {o : Option mMV ⊕ Nat} {h' : mMH}
theorem ev_ishrN {a n : Nat} {x y : Int} (hf : lk (dC (PP L xs j)) pc = some (mo_ishr nx)) (hx : x = ((a : Nat) : Int)) (hy : y = ((n : Nat) : Int)) (ha : a < 2147483648) (hn : n < 32) (kk : Ev (PP L xs) d j nx ls (vI ((a / 2 ^ n : Nat) : Int) :: st) (HS t m) o h') : Ev (PP L xs) d j pc ls (vI y :: vI x :: st) (HS t m) o h' := by
  subst hx; subst hy
  refine ev_ishr hf (inI_of (by omega) (by omega)) (by omega) (by omega) ?_
  rw [Int.toNat_natCast]
  exact_mod_cast kk
theorem ev_iandm {x y0 M : Int} (hf : lk (dC (PP L xs j)) pc = some (mo_iandm y0 M nx)) (kk : Ev (PP L xs) d j nx ls (vI (x % M) :: st) (HS t m) o h') : Ev (PP L xs) d j pc ls (vI y0 :: vI x :: st) (HS t m) o h' := by
  refine ev_step (pc' := nx) (ls' := ls) (st' := vI (x % M) :: st) (h1 := HS t m) hf ?_ kk
  simp [mo_iandm, nxt]
theorem ev_iaddw {x y : Int} (hf : lk (dC (PP L xs j)) pc = some (mo_iaddw nx)) (kk : Ev (PP L xs) d j nx ls (vI ((x + y).bmod 4294967296) :: st) (HS t m) o h') : Ev (PP L xs) d j pc ls (vI y :: vI x :: st) (HS t m) o h' :=
  ev_step (pc' := nx) (ls' := ls) (st' := vI ((x + y).bmod 4294967296) :: st) (h1 := HS t m) hf rfl kk
theorem ev_lshl {n : Nat} {x y : Int} (hf : lk (dC (PP L xs j)) pc = some (mo_lshl nx)) (hy : y = ((n : Nat) : Int)) (hn : n < 64) (kk : Ev (PP L xs) d j nx ls (vJ (x * 2 ^ n) :: st) (HS t m) o h') : Ev (PP L xs) d j pc ls (vI y :: vJ x :: st) (HS t m) o h' := by
  subst hy
  refine ev_step (pc' := nx) (ls' := ls) (st' := vJ (x * 2 ^ n) :: st) (h1 := HS t m) hf ?_ kk
  show (bif decide (0 ≤ (n : Int)) && decide ((n : Int) < 64) then nxt nx ls (vJ (x * 2 ^ ((n : Int)).toNat) :: st) (HS t m) else none) = _
  rw [decide_eq_true (show 0 ≤ (n : Int) by omega), decide_eq_true (show (n : Int) < 64 by omega), Int.toNat_natCast]; rfl
theorem ev_lshr {n : Nat} {x y : Int} (hf : lk (dC (PP L xs j)) pc = some (mo_lshr nx)) (hy : y = ((n : Nat) : Int)) (hx : inJ x = true) (hn : n < 64) (kk : Ev (PP L xs) d j nx ls (vJ (x / 2 ^ n) :: st) (HS t m) o h') : Ev (PP L xs) d j pc ls (vI y :: vJ x :: st) (HS t m) o h' := by
  subst hy
  refine ev_step (pc' := nx) (ls' := ls) (st' := vJ (x / 2 ^ n) :: st) (h1 := HS t m) hf ?_ kk
  show (bif inJ x && (decide (0 ≤ (n : Int)) && decide ((n : Int) < 64)) then nxt nx ls (vJ (x / 2 ^ ((n : Int)).toNat) :: st) (HS t m) else none) = _
  rw [hx, decide_eq_true (show 0 ≤ (n : Int) by omega), decide_eq_true (show (n : Int) < 64 by omega), Int.toNat_natCast]; rfl
theorem ev_sld {i : Int} {k : Nat} (hf : lk (dC (PP L xs j)) pc = some (mo_sld L xs nx)) (hi : i = (k : Int)) (hlt : k < L) (kk : Ev (PP L xs) d j nx ls (vI (xs k).toInt :: st) (HS t m) o h') : Ev (PP L xs) d j pc ls (vI i :: vR (some 0) :: st) (HS t m) o h' := by
  subst hi
  refine ev_step (pc' := nx) (ls' := ls) (st' := vI (xs k).toInt :: st) (h1 := HS t m) hf ?_ kk
  show (bif decide (0 ≤ (k : Int)) && decide ((k : Int) < (L : Int)) then _ else none) = _
  rw [decide_eq_true (show 0 ≤ (k : Int) by omega), decide_eq_true (show (k : Int) < (L : Int) by omega)]; rfl
end EVL
theorem xs_in (x : Int32) : inI x.toInt = true := inI_of (by have := Int32.le_toInt x; omega) (by have := Int32.toInt_lt x; omega)
theorem xs_bd (x : Int32) : -2147483648 ≤ x.toInt ∧ x.toInt < 2147483648 := ⟨by have := Int32.le_toInt x; omega, by have := Int32.toInt_lt x; omega⟩
theorem bm_bd (z : Int) : -2147483648 ≤ z.bmod 4294967296 ∧ z.bmod 4294967296 < 2147483648 := by
  have h1 := Int.le_bmod (x := z) (m := 4294967296) (by decide)
  have h2 := Int.bmod_lt (x := z) (m := 4294967296) (by decide)
  omega
