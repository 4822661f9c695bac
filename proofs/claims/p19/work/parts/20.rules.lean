/-! ===== the heap behind the constructors, and rules for the methods that run over it ===== -/
def kdS : List (Nat × Nat) := [(9, 0), (0, 8), (0, 7), (0, 1), (6, 21), (1, 5), (4, 5), (1, 5), (1, 5), (1, 5), (1, 5), (1, 5), (0, 5), (1, 6), (1, 6), (0, 5), (1, 6), (1, 6), (0, 5), (1, 6), (1, 6), (0, 5), (1, 6), (1, 6), (0, 5), (1, 6), (1, 6), (0, 5), (1, 6), (1, 6), (0, 5), (1, 6), (1, 6), (0, 5), (1, 6), (1, 6), (0, 5), (1, 6), (1, 6), (0, 5), (1, 6), (1, 6), (0, 5), (1, 6), (1, 6), (0, 5), (1, 6), (1, 6), (0, 5), (1, 6), (1, 6), (0, 5), (1, 6), (1, 6), (0, 5), (1, 6), (1, 6), (0, 5), (1, 6), (1, 6), (0, 5), (1, 6), (1, 6), (0, 5), (1, 6), (1, 6), (0, 5), (1, 6), (1, 6), (0, 5), (1, 6), (1, 6), (0, 5), (1, 6), (1, 6), (0, 4), (1, 5), (1, 5), (0, 2), (4, 5), (1, 5), (1, 5), (1, 5), (1, 5), (1, 5), (4, 6), (1, 5), (1, 5), (1, 5), (1, 5), (1, 5), (1, 5), (0, 6), (7, 25), (5, 5), (2, 5), (2, 5), (2, 5), (2, 5), (2, 5), (5, 5), (2, 5), (2, 5), (2, 5), (2, 5), (2, 5), (0, 3), (2, 10), (1, 10), (0, 3), (2, 10), (1, 10), (0, 3), (2, 10), (1, 10), (0, 3), (2, 10), (1, 10), (0, 3), (2, 10), (1, 10), (0, 3), (2, 10), (1, 10), (0, 3), (2, 10), (1, 10), (0, 3), (2, 10), (1, 10), (0, 3), (2, 10), (1, 10), (0, 3), (2, 10), (1, 10), (0, 3), (2, 10), (1, 10), (0, 3), (2, 10), (1, 10), (0, 3), (2, 10), (1, 10), (0, 3), (2, 10), (1, 10), (0, 3), (2, 10), (1, 10), (0, 3), (2, 10), (1, 10), (0, 3), (2, 10), (1, 10), (0, 3), (2, 10), (1, 10), (0, 3), (2, 10), (1, 10), (0, 3), (2, 10), (1, 10), (0, 3), (2, 10), (1, 10), (0, 3), (2, 10), (1, 10), (0, 3), (2, 10), (1, 10), (0, 3), (2, 10), (1, 10), (0, 3), (2, 10), (1, 10), (0, 0), (1, 5), (2, 6), (1, 6), (0, 3), (2, 10), (1, 10), (1, 5), (2, 5), (1, 25), (1, 5)]
def rfS : List (Nat → Option Nat) := [r_no,
  ru (ru (ru (ru (ru (ru (ru (ru (ru r_no 0 (some 2)) 1 (some 3)) 2 (some 75)) 3 (some 78)) 4 (some 92)) 5 (some 181)) 6 (some 185)) 7 (some 188)) 8 (some 189),
  r_no,
  ru (ru (ru r_no 0 (some 4)) 1 (some 5)) 2 (some 6),
  ru (ru (ru (ru (ru (ru (ru (ru (ru (ru (ru (ru (ru (ru (ru (ru (ru (ru (ru (ru (ru r_no 0 (some 12)) 1 (some 15)) 2 (some 18)) 3 (some 21)) 4 (some 24)) 5 (some 27)) 6 (some 30)) 7 (some 33)) 8 (some 36)) 9 (some 39)) 10 (some 42)) 11 (some 45)) 12 (some 48)) 13 (some 51)) 14 (some 54)) 15 (some 57)) 16 (some 60)) 17 (some 63)) 18 (some 66)) 19 (some 69)) 20 (some 72),
  r_no,
  rowsR 6 5,
  r_no,
  r_no,
  r_no,
  r_no,
  r_no,
  ru (ru r_no 0 (some 13)) 1 (some 14),
  r_no,
  r_no,
  ru (ru r_no 0 (some 16)) 1 (some 17),
  r_no,
  r_no,
  ru (ru r_no 0 (some 19)) 1 (some 20),
  r_no,
  r_no,
  ru (ru r_no 0 (some 22)) 1 (some 23),
  r_no,
  r_no,
  ru (ru r_no 0 (some 25)) 1 (some 26),
  r_no,
  r_no,
  ru (ru r_no 0 (some 28)) 1 (some 29),
  r_no,
  r_no,
  ru (ru r_no 0 (some 31)) 1 (some 32),
  r_no,
  r_no,
  ru (ru r_no 0 (some 34)) 1 (some 35),
  r_no,
  r_no,
  ru (ru r_no 0 (some 37)) 1 (some 38),
  r_no,
  r_no,
  ru (ru r_no 0 (some 40)) 1 (some 41),
  r_no,
  r_no,
  ru (ru r_no 0 (some 43)) 1 (some 44),
  r_no,
  r_no,
  ru (ru r_no 0 (some 46)) 1 (some 47),
  r_no,
  r_no,
  ru (ru r_no 0 (some 49)) 1 (some 50),
  r_no,
  r_no,
  ru (ru r_no 0 (some 52)) 1 (some 53),
  r_no,
  r_no,
  ru (ru r_no 0 (some 55)) 1 (some 56),
  r_no,
  r_no,
  ru (ru r_no 0 (some 58)) 1 (some 59),
  r_no,
  r_no,
  ru (ru r_no 0 (some 61)) 1 (some 62),
  r_no,
  r_no,
  ru (ru r_no 0 (some 64)) 1 (some 65),
  r_no,
  r_no,
  ru (ru r_no 0 (some 67)) 1 (some 68),
  r_no,
  r_no,
  ru (ru r_no 0 (some 70)) 1 (some 71),
  r_no,
  r_no,
  ru (ru r_no 0 (some 73)) 1 (some 74),
  r_no,
  r_no,
  ru (ru r_no 0 (some 76)) 1 (some 77),
  r_no,
  r_no,
  ru (ru (ru (ru r_no 2 (some 79)) 3 (some 85)) 0 (some 3)) 1 (some 75),
  rowsR 79 5,
  r_no,
  r_no,
  r_no,
  r_no,
  r_no,
  rowsR 85 6,
  r_no,
  r_no,
  r_no,
  r_no,
  r_no,
  r_no,
  ru (ru (ru (ru r_no 1 (some 93)) 2 (some 94)) 3 (some 100)) 0 (some 78),
  ru (ru (ru (ru (ru (ru (ru (ru (ru (ru (ru (ru (ru (ru (ru (ru (ru (ru (ru (ru (ru (ru (ru (ru (ru r_no 0 (some 106)) 1 (some 109)) 2 (some 112)) 3 (some 115)) 4 (some 118)) 5 (some 121)) 6 (some 124)) 7 (some 127)) 8 (some 130)) 9 (some 133)) 10 (some 136)) 11 (some 139)) 12 (some 142)) 13 (some 145)) 14 (some 148)) 15 (some 151)) 16 (some 154)) 17 (some 157)) 18 (some 160)) 19 (some 163)) 20 (some 166)) 21 (some 169)) 22 (some 172)) 23 (some 175)) 24 (some 178),
  rowsR 94 5,
  r_no,
  r_no,
  r_no,
  r_no,
  r_no,
  rowsR 100 5,
  r_no,
  r_no,
  r_no,
  r_no,
  r_no,
  ru (ru r_no 0 (some 107)) 1 (some 108),
  r_no,
  r_no,
  ru (ru r_no 0 (some 110)) 1 (some 111),
  r_no,
  r_no,
  ru (ru r_no 0 (some 113)) 1 (some 114),
  r_no,
  r_no,
  ru (ru r_no 0 (some 116)) 1 (some 117),
  r_no,
  r_no,
  ru (ru r_no 0 (some 119)) 1 (some 120),
  r_no,
  r_no,
  ru (ru r_no 0 (some 122)) 1 (some 123),
  r_no,
  r_no,
  ru (ru r_no 0 (some 125)) 1 (some 126),
  r_no,
  r_no,
  ru (ru r_no 0 (some 128)) 1 (some 129),
  r_no,
  r_no,
  ru (ru r_no 0 (some 131)) 1 (some 132),
  r_no,
  r_no,
  ru (ru r_no 0 (some 134)) 1 (some 135),
  r_no,
  r_no,
  ru (ru r_no 0 (some 137)) 1 (some 138),
  r_no,
  r_no,
  ru (ru r_no 0 (some 140)) 1 (some 141),
  r_no,
  r_no,
  ru (ru r_no 0 (some 143)) 1 (some 144),
  r_no,
  r_no,
  ru (ru r_no 0 (some 146)) 1 (some 147),
  r_no,
  r_no,
  ru (ru r_no 0 (some 149)) 1 (some 150),
  r_no,
  r_no,
  ru (ru r_no 0 (some 152)) 1 (some 153),
  r_no,
  r_no,
  ru (ru r_no 0 (some 155)) 1 (some 156),
  r_no,
  r_no,
  ru (ru r_no 0 (some 158)) 1 (some 159),
  r_no,
  r_no,
  ru (ru r_no 0 (some 161)) 1 (some 162),
  r_no,
  r_no,
  ru (ru r_no 0 (some 164)) 1 (some 165),
  r_no,
  r_no,
  ru (ru r_no 0 (some 167)) 1 (some 168),
  r_no,
  r_no,
  ru (ru r_no 0 (some 170)) 1 (some 171),
  r_no,
  r_no,
  ru (ru r_no 0 (some 173)) 1 (some 174),
  r_no,
  r_no,
  ru (ru r_no 0 (some 176)) 1 (some 177),
  r_no,
  r_no,
  ru (ru r_no 0 (some 179)) 1 (some 180),
  r_no,
  r_no,
  ru (ru (ru (ru r_no 1 (some 182)) 2 (some 183)) 3 (some 184)) 0 (some 78),
  r_no,
  r_no,
  r_no,
  ru (ru r_no 0 (some 186)) 1 (some 187),
  r_no,
  r_no,
  r_no,
  r_no,
  r_no,
  r_no]
abbrev HS (t : Bool × Nat × Nat) (m : mMM) : mMH := (((192, t.1), (t.2.1, t.2.2), kdS, rfS), m)
def kd (a : Nat) : Nat × Nat := kdS.getD a (9, 0)
def rf (a : Nat) : Nat → Option Nat := rfS.getD a r_no
def tx (i : Nat) : Nat := 12 + 3 * i
def rk (i : Nat) : Nat := 106 + 3 * i
theorem kd_tx : ∀ i, i < 21 → kd (tx i) = (0, 5) ∧ kd (tx i + 1) = (1, 6) ∧ kd (tx i + 2) = (1, 6) := by decide +kernel
theorem rf_tx : ∀ i, i < 21 → rf 4 i = some (tx i) ∧ rf (tx i) 0 = some (tx i + 1) ∧ rf (tx i) 1 = some (tx i + 2) := by decide +kernel
theorem kd_rk : ∀ i, i < 25 → kd (rk i) = (0, 3) ∧ kd (rk i + 1) = (2, 10) ∧ kd (rk i + 2) = (1, 10) ∧ rf (rk i) 0 = some (rk i + 1) ∧ rf (rk i) 1 = some (rk i + 2) := by decide +kernel
theorem rf_rk : ∀ i, i < 25 → rf 93 i = some (rk i) := by decide +kernel
theorem kd_rows : ∀ i, i < 5 → kd (7 + i) = (1, 5) ∧ kd (80 + i) = (1, 5) ∧ kd (95 + i) = (2, 5) ∧ kd (101 + i) = (2, 5) := by decide +kernel
theorem kd_row6 : ∀ i, i < 6 → kd (86 + i) = (1, 5) := by decide +kernel
theorem rf_rows : ∀ i, i < 5 → rf 6 i = some (7 + i) ∧ rf 79 i = some (80 + i) ∧ rf 94 i = some (95 + i) ∧ rf 100 i = some (101 + i) := by decide +kernel
theorem rf_row6 : ∀ i, i < 6 → rf 85 i = some (86 + i) := by decide +kernel
theorem inI_of {x : Int} (h1 : -2147483648 ≤ x) (h2 : x < 2147483648) : inI x = true := by
  simp only [inI, Bool.and_eq_true, decide_eq_true_eq]; exact ⟨h1, h2⟩
theorem inJ_of {x : Int} (h1 : -9223372036854775808 ≤ x) (h2 : x < 9223372036854775808) : inJ x = true := by
  simp only [inJ, Bool.and_eq_true, decide_eq_true_eq]; exact ⟨h1, h2⟩
section EVS
variable {L : Nat} {xs : Nat → Int32} {d j pc nx tgt : Nat} {ls : mLS} {st : mST} {t : Bool × Nat × Nat} {m : mMM} {o : Option mMV ⊕ Nat} {h' : mMH}
theorem ev_retE {P : Nat → mMD} {h h'' : mMH} {f : mOP} {v v' : Option mMV} (hf : lk (dC (P j)) pc = some f) (hs : f ls st h = some (.inr (.inl (v', h'')))) (hv : v' = v) (hh : h'' = h') : Ev P d j pc ls st h (.inl v) h' := by
  subst hv; subst hh; exact ev_ret hf hs
theorem ev_ic0 {x y : Int} (hf : lk (dC (PP L xs j)) pc = some (mo_icmp 0 tgt nx)) (hx : inI x = true) (hy : inI y = true) (k1 : x = y → Ev (PP L xs) d j tgt ls st (HS t m) o h') (k2 : ¬ x = y → Ev (PP L xs) d j nx ls st (HS t m) o h') : Ev (PP L xs) d j pc ls (vI y :: vI x :: st) (HS t m) o h' := by
  have e : ∀ c, mrel 0 x y = c → mo_icmp 0 tgt nx ls (vI y :: vI x :: st) (HS t m) = bif c then nxt tgt ls st (HS t m) else nxt nx ls st (HS t m) := fun c hc => by
    show (bif inI x && inI y then (bif mrel 0 x y then nxt tgt ls st (HS t m) else nxt nx ls st (HS t m)) else none) = _
    rw [hx, hy, hc]; rfl
  by_cases q : x = y
  · exact ev_step hf (e true (by simp [mrel]; omega)) (k1 q)
  · exact ev_step hf (e false (by simp [mrel]; omega)) (k2 (by omega))
theorem ev_if0 {x : Int} (hf : lk (dC (PP L xs j)) pc = some (mo_if 0 tgt nx)) (hx : inI x = true) (k1 : x = 0 → Ev (PP L xs) d j tgt ls st (HS t m) o h') (k2 : ¬ x = 0 → Ev (PP L xs) d j nx ls st (HS t m) o h') : Ev (PP L xs) d j pc ls (vI x :: st) (HS t m) o h' := by
  have e : ∀ c, mrel 0 x 0 = c → mo_if 0 tgt nx ls (vI x :: st) (HS t m) = bif c then nxt tgt ls st (HS t m) else nxt nx ls st (HS t m) := fun c hc => by
    show (bif inI x then (bif mrel 0 x 0 then nxt tgt ls st (HS t m) else nxt nx ls st (HS t m)) else none) = _
    rw [hx, hc]; rfl
  by_cases q : x = 0
  · exact ev_step hf (e true (by simp [mrel]; omega)) (k1 q)
  · exact ev_step hf (e false (by simp [mrel]; omega)) (k2 (by omega))
theorem ev_ic1 {x y : Int} (hf : lk (dC (PP L xs j)) pc = some (mo_icmp 1 tgt nx)) (hx : inI x = true) (hy : inI y = true) (k1 : ¬ x = y → Ev (PP L xs) d j tgt ls st (HS t m) o h') (k2 : x = y → Ev (PP L xs) d j nx ls st (HS t m) o h') : Ev (PP L xs) d j pc ls (vI y :: vI x :: st) (HS t m) o h' := by
  have e : ∀ c, mrel 1 x y = c → mo_icmp 1 tgt nx ls (vI y :: vI x :: st) (HS t m) = bif c then nxt tgt ls st (HS t m) else nxt nx ls st (HS t m) := fun c hc => by
    show (bif inI x && inI y then (bif mrel 1 x y then nxt tgt ls st (HS t m) else nxt nx ls st (HS t m)) else none) = _
    rw [hx, hy, hc]; rfl
  by_cases q : ¬ x = y
  · exact ev_step hf (e true (by simp [mrel]; omega)) (k1 q)
  · exact ev_step hf (e false (by simp [mrel]; omega)) (k2 (by omega))
theorem ev_if1 {x : Int} (hf : lk (dC (PP L xs j)) pc = some (mo_if 1 tgt nx)) (hx : inI x = true) (k1 : ¬ x = 0 → Ev (PP L xs) d j tgt ls st (HS t m) o h') (k2 : x = 0 → Ev (PP L xs) d j nx ls st (HS t m) o h') : Ev (PP L xs) d j pc ls (vI x :: st) (HS t m) o h' := by
  have e : ∀ c, mrel 1 x 0 = c → mo_if 1 tgt nx ls (vI x :: st) (HS t m) = bif c then nxt tgt ls st (HS t m) else nxt nx ls st (HS t m) := fun c hc => by
    show (bif inI x then (bif mrel 1 x 0 then nxt tgt ls st (HS t m) else nxt nx ls st (HS t m)) else none) = _
    rw [hx, hc]; rfl
  by_cases q : ¬ x = 0
  · exact ev_step hf (e true (by simp [mrel]; omega)) (k1 q)
  · exact ev_step hf (e false (by simp [mrel]; omega)) (k2 (by omega))
theorem ev_ic2 {x y : Int} (hf : lk (dC (PP L xs j)) pc = some (mo_icmp 2 tgt nx)) (hx : inI x = true) (hy : inI y = true) (k1 : x < y → Ev (PP L xs) d j tgt ls st (HS t m) o h') (k2 : y ≤ x → Ev (PP L xs) d j nx ls st (HS t m) o h') : Ev (PP L xs) d j pc ls (vI y :: vI x :: st) (HS t m) o h' := by
  have e : ∀ c, mrel 2 x y = c → mo_icmp 2 tgt nx ls (vI y :: vI x :: st) (HS t m) = bif c then nxt tgt ls st (HS t m) else nxt nx ls st (HS t m) := fun c hc => by
    show (bif inI x && inI y then (bif mrel 2 x y then nxt tgt ls st (HS t m) else nxt nx ls st (HS t m)) else none) = _
    rw [hx, hy, hc]; rfl
  by_cases q : x < y
  · exact ev_step hf (e true (by simp [mrel]; omega)) (k1 q)
  · exact ev_step hf (e false (by simp [mrel]; omega)) (k2 (by omega))
theorem ev_if2 {x : Int} (hf : lk (dC (PP L xs j)) pc = some (mo_if 2 tgt nx)) (hx : inI x = true) (k1 : x < 0 → Ev (PP L xs) d j tgt ls st (HS t m) o h') (k2 : 0 ≤ x → Ev (PP L xs) d j nx ls st (HS t m) o h') : Ev (PP L xs) d j pc ls (vI x :: st) (HS t m) o h' := by
  have e : ∀ c, mrel 2 x 0 = c → mo_if 2 tgt nx ls (vI x :: st) (HS t m) = bif c then nxt tgt ls st (HS t m) else nxt nx ls st (HS t m) := fun c hc => by
    show (bif inI x then (bif mrel 2 x 0 then nxt tgt ls st (HS t m) else nxt nx ls st (HS t m)) else none) = _
    rw [hx, hc]; rfl
  by_cases q : x < 0
  · exact ev_step hf (e true (by simp [mrel]; omega)) (k1 q)
  · exact ev_step hf (e false (by simp [mrel]; omega)) (k2 (by omega))
theorem ev_ic3 {x y : Int} (hf : lk (dC (PP L xs j)) pc = some (mo_icmp 3 tgt nx)) (hx : inI x = true) (hy : inI y = true) (k1 : y ≤ x → Ev (PP L xs) d j tgt ls st (HS t m) o h') (k2 : x < y → Ev (PP L xs) d j nx ls st (HS t m) o h') : Ev (PP L xs) d j pc ls (vI y :: vI x :: st) (HS t m) o h' := by
  have e : ∀ c, mrel 3 x y = c → mo_icmp 3 tgt nx ls (vI y :: vI x :: st) (HS t m) = bif c then nxt tgt ls st (HS t m) else nxt nx ls st (HS t m) := fun c hc => by
    show (bif inI x && inI y then (bif mrel 3 x y then nxt tgt ls st (HS t m) else nxt nx ls st (HS t m)) else none) = _
    rw [hx, hy, hc]; rfl
  by_cases q : y ≤ x
  · exact ev_step hf (e true (by simp [mrel]; omega)) (k1 q)
  · exact ev_step hf (e false (by simp [mrel]; omega)) (k2 (by omega))
theorem ev_if3 {x : Int} (hf : lk (dC (PP L xs j)) pc = some (mo_if 3 tgt nx)) (hx : inI x = true) (k1 : 0 ≤ x → Ev (PP L xs) d j tgt ls st (HS t m) o h') (k2 : x < 0 → Ev (PP L xs) d j nx ls st (HS t m) o h') : Ev (PP L xs) d j pc ls (vI x :: st) (HS t m) o h' := by
  have e : ∀ c, mrel 3 x 0 = c → mo_if 3 tgt nx ls (vI x :: st) (HS t m) = bif c then nxt tgt ls st (HS t m) else nxt nx ls st (HS t m) := fun c hc => by
    show (bif inI x then (bif mrel 3 x 0 then nxt tgt ls st (HS t m) else nxt nx ls st (HS t m)) else none) = _
    rw [hx, hc]; rfl
  by_cases q : 0 ≤ x
  · exact ev_step hf (e true (by simp [mrel]; omega)) (k1 q)
  · exact ev_step hf (e false (by simp [mrel]; omega)) (k2 (by omega))
theorem ev_ic4 {x y : Int} (hf : lk (dC (PP L xs j)) pc = some (mo_icmp 4 tgt nx)) (hx : inI x = true) (hy : inI y = true) (k1 : y < x → Ev (PP L xs) d j tgt ls st (HS t m) o h') (k2 : x ≤ y → Ev (PP L xs) d j nx ls st (HS t m) o h') : Ev (PP L xs) d j pc ls (vI y :: vI x :: st) (HS t m) o h' := by
  have e : ∀ c, mrel 4 x y = c → mo_icmp 4 tgt nx ls (vI y :: vI x :: st) (HS t m) = bif c then nxt tgt ls st (HS t m) else nxt nx ls st (HS t m) := fun c hc => by
    show (bif inI x && inI y then (bif mrel 4 x y then nxt tgt ls st (HS t m) else nxt nx ls st (HS t m)) else none) = _
    rw [hx, hy, hc]; rfl
  by_cases q : y < x
  · exact ev_step hf (e true (by simp [mrel]; omega)) (k1 q)
  · exact ev_step hf (e false (by simp [mrel]; omega)) (k2 (by omega))
theorem ev_if4 {x : Int} (hf : lk (dC (PP L xs j)) pc = some (mo_if 4 tgt nx)) (hx : inI x = true) (k1 : 0 < x → Ev (PP L xs) d j tgt ls st (HS t m) o h') (k2 : x ≤ 0 → Ev (PP L xs) d j nx ls st (HS t m) o h') : Ev (PP L xs) d j pc ls (vI x :: st) (HS t m) o h' := by
  have e : ∀ c, mrel 4 x 0 = c → mo_if 4 tgt nx ls (vI x :: st) (HS t m) = bif c then nxt tgt ls st (HS t m) else nxt nx ls st (HS t m) := fun c hc => by
    show (bif inI x then (bif mrel 4 x 0 then nxt tgt ls st (HS t m) else nxt nx ls st (HS t m)) else none) = _
    rw [hx, hc]; rfl
  by_cases q : 0 < x
  · exact ev_step hf (e true (by simp [mrel]; omega)) (k1 q)
  · exact ev_step hf (e false (by simp [mrel]; omega)) (k2 (by omega))
theorem ev_ic5 {x y : Int} (hf : lk (dC (PP L xs j)) pc = some (mo_icmp 5 tgt nx)) (hx : inI x = true) (hy : inI y = true) (k1 : x ≤ y → Ev (PP L xs) d j tgt ls st (HS t m) o h') (k2 : y < x → Ev (PP L xs) d j nx ls st (HS t m) o h') : Ev (PP L xs) d j pc ls (vI y :: vI x :: st) (HS t m) o h' := by
  have e : ∀ c, mrel 5 x y = c → mo_icmp 5 tgt nx ls (vI y :: vI x :: st) (HS t m) = bif c then nxt tgt ls st (HS t m) else nxt nx ls st (HS t m) := fun c hc => by
    show (bif inI x && inI y then (bif mrel 5 x y then nxt tgt ls st (HS t m) else nxt nx ls st (HS t m)) else none) = _
    rw [hx, hy, hc]; rfl
  by_cases q : x ≤ y
  · exact ev_step hf (e true (by simp [mrel]; omega)) (k1 q)
  · exact ev_step hf (e false (by simp [mrel]; omega)) (k2 (by omega))
theorem ev_if5 {x : Int} (hf : lk (dC (PP L xs j)) pc = some (mo_if 5 tgt nx)) (hx : inI x = true) (k1 : x ≤ 0 → Ev (PP L xs) d j tgt ls st (HS t m) o h') (k2 : 0 < x → Ev (PP L xs) d j nx ls st (HS t m) o h') : Ev (PP L xs) d j pc ls (vI x :: st) (HS t m) o h' := by
  have e : ∀ c, mrel 5 x 0 = c → mo_if 5 tgt nx ls (vI x :: st) (HS t m) = bif c then nxt tgt ls st (HS t m) else nxt nx ls st (HS t m) := fun c hc => by
    show (bif inI x then (bif mrel 5 x 0 then nxt tgt ls st (HS t m) else nxt nx ls st (HS t m)) else none) = _
    rw [hx, hc]; rfl
  by_cases q : x ≤ 0
  · exact ev_step hf (e true (by simp [mrel]; omega)) (k1 q)
  · exact ev_step hf (e false (by simp [mrel]; omega)) (k2 (by omega))
theorem kd_kq {a x y : Nat} (hk : kd a = (x, y)) : kq (HS t m) a x y = true := by
  unfold kq
  rw [show mK (HS t m) a = (x, y) from hk, nb_eq, nb_eq]; rfl
theorem kd_ka {a x n k : Nat} (hk : kd a = (x, n)) (hlt : k < n) : ka (HS t m) a x (k : Int) = true := by
  unfold ka
  rw [show mK (HS t m) a = (x, n) from hk, nb_eq, decide_eq_true (Int.natCast_nonneg k), decide_eq_true (by omega : (k : Int) < (n : Int))]; rfl
theorem ev_getI {a c k : Nat} (hf : lk (dC (PP L xs j)) pc = some (mo_getI c k nx)) (hk : kd a = (0, c)) (kk : Ev (PP L xs) d j nx ls (vI (m a k) :: st) (HS t m) o h') : Ev (PP L xs) d j pc ls (vR (some a) :: st) (HS t m) o h' := by
  refine ev_step (pc' := nx) (ls' := ls) (st' := vI (m a k) :: st) (h1 := HS t m) hf ?_ kk
  show (bif kq (HS t m) a 0 c then _ else none) = _
  rw [show kq (HS t m) a 0 c = true from kd_kq hk]; rfl
theorem ev_getJ {a c k : Nat} (hf : lk (dC (PP L xs j)) pc = some (mo_getJ c k nx)) (hk : kd a = (0, c)) (kk : Ev (PP L xs) d j nx ls (vJ (m a k) :: st) (HS t m) o h') : Ev (PP L xs) d j pc ls (vR (some a) :: st) (HS t m) o h' := by
  refine ev_step (pc' := nx) (ls' := ls) (st' := vJ (m a k) :: st) (h1 := HS t m) hf ?_ kk
  show (bif kq (HS t m) a 0 c then _ else none) = _
  rw [show kq (HS t m) a 0 c = true from kd_kq hk]; rfl
theorem ev_getR {a c k : Nat} {r : Option Nat} (hf : lk (dC (PP L xs j)) pc = some (mo_getR c k nx)) (hk : kd a = (0, c)) (hr : rf a k = r) (kk : Ev (PP L xs) d j nx ls (vR r :: st) (HS t m) o h') : Ev (PP L xs) d j pc ls (vR (some a) :: st) (HS t m) o h' := by
  subst hr
  refine ev_step (pc' := nx) (ls' := ls) (st' := vR (rf a k) :: st) (h1 := HS t m) hf ?_ kk
  show (bif kq (HS t m) a 0 c then _ else none) = _
  rw [show kq (HS t m) a 0 c = true from kd_kq hk]; rfl
theorem ev_putI {a c k : Nat} {x : Int} (hf : lk (dC (PP L xs j)) pc = some (mo_putI c k nx)) (hk : kd a = (0, c)) (kk : Ev (PP L xs) d j nx ls st (HS t (up m a k x)) o h') : Ev (PP L xs) d j pc ls (vI x :: vR (some a) :: st) (HS t m) o h' := by
  refine ev_step (pc' := nx) (ls' := ls) (st' := st) (h1 := HS t (up m a k x)) hf ?_ kk
  show (bif kq (HS t m) a 0 c then _ else none) = _
  rw [show kq (HS t m) a 0 c = true from kd_kq hk]; rfl
theorem ev_putJ {a c k : Nat} {x : Int} (hf : lk (dC (PP L xs j)) pc = some (mo_putJ c k nx)) (hk : kd a = (0, c)) (kk : Ev (PP L xs) d j nx ls st (HS t (up m a k x)) o h') : Ev (PP L xs) d j pc ls (vJ x :: vR (some a) :: st) (HS t m) o h' := by
  refine ev_step (pc' := nx) (ls' := ls) (st' := st) (h1 := HS t (up m a k x)) hf ?_ kk
  show (bif kq (HS t m) a 0 c then _ else none) = _
  rw [show kq (HS t m) a 0 c = true from kd_kq hk]; rfl
theorem ev_putZ {a c k : Nat} {x : Int} (hf : lk (dC (PP L xs j)) pc = some (mo_putZ c k nx)) (hk : kd a = (0, c)) (hz : x = 0 ∨ x = 1) (kk : Ev (PP L xs) d j nx ls st (HS t (up m a k x)) o h') : Ev (PP L xs) d j pc ls (vI x :: vR (some a) :: st) (HS t m) o h' := by
  refine ev_step (pc' := nx) (ls' := ls) (st' := st) (h1 := HS t (up m a k x)) hf ?_ kk
  show (bif kq (HS t m) a 0 c && (decide (x = 0) || decide (x = 1)) then _ else none) = _
  rw [show kq (HS t m) a 0 c = true from kd_kq hk]
  rcases hz with rfl | rfl <;> rfl
theorem ev_iald {a n k : Nat} {i : Int} (hf : lk (dC (PP L xs j)) pc = some (mo_iald nx)) (hk : kd a = (1, n)) (hi : i = (k : Int)) (hlt : k < n) (kk : Ev (PP L xs) d j nx ls (vI (m a k) :: st) (HS t m) o h') : Ev (PP L xs) d j pc ls (vI i :: vR (some a) :: st) (HS t m) o h' := by
  subst hi
  refine ev_step (pc' := nx) (ls' := ls) (st' := vI (m a k) :: st) (h1 := HS t m) hf ?_ kk
  show (bif ka (HS t m) a 1 (k : Int) then _ else none) = _
  rw [show ka (HS t m) a 1 (k : Int) = true from kd_ka hk hlt]; rfl
theorem ev_lald {a n k : Nat} {i : Int} (hf : lk (dC (PP L xs j)) pc = some (mo_lald nx)) (hk : kd a = (2, n)) (hi : i = (k : Int)) (hlt : k < n) (kk : Ev (PP L xs) d j nx ls (vJ (m a k) :: st) (HS t m) o h') : Ev (PP L xs) d j pc ls (vI i :: vR (some a) :: st) (HS t m) o h' := by
  subst hi
  refine ev_step (pc' := nx) (ls' := ls) (st' := vJ (m a k) :: st) (h1 := HS t m) hf ?_ kk
  show (bif ka (HS t m) a 2 (k : Int) then _ else none) = _
  rw [show ka (HS t m) a 2 (k : Int) = true from kd_ka hk hlt]; rfl
theorem ev_zald {a n k : Nat} {i : Int} (hf : lk (dC (PP L xs j)) pc = some (mo_zald nx)) (hk : kd a = (3, n)) (hi : i = (k : Int)) (hlt : k < n) (kk : Ev (PP L xs) d j nx ls (vI (m a k) :: st) (HS t m) o h') : Ev (PP L xs) d j pc ls (vI i :: vR (some a) :: st) (HS t m) o h' := by
  subst hi
  refine ev_step (pc' := nx) (ls' := ls) (st' := vI (m a k) :: st) (h1 := HS t m) hf ?_ kk
  show (bif ka (HS t m) a 3 (k : Int) then _ else none) = _
  rw [show ka (HS t m) a 3 (k : Int) = true from kd_ka hk hlt]; rfl
theorem ev_aald {a n k q : Nat} {i : Int} {r : Option Nat} (hf : lk (dC (PP L xs j)) pc = some (mo_aald q nx)) (hk : kd a = (q, n)) (hi : i = (k : Int)) (hlt : k < n) (hr : rf a k = r) (kk : Ev (PP L xs) d j nx ls (vR r :: st) (HS t m) o h') : Ev (PP L xs) d j pc ls (vI i :: vR (some a) :: st) (HS t m) o h' := by
  subst hi; subst hr
  refine ev_step (pc' := nx) (ls' := ls) (st' := vR (rf a k) :: st) (h1 := HS t m) hf ?_ kk
  show (bif ka (HS t m) a q (k : Int) then _ else none) = _
  rw [show ka (HS t m) a q (k : Int) = true from kd_ka hk hlt]; rfl
theorem ev_iast {a n k : Nat} {i x : Int} (hf : lk (dC (PP L xs j)) pc = some (mo_iast nx)) (hk : kd a = (1, n)) (hi : i = (k : Int)) (hlt : k < n) (kk : Ev (PP L xs) d j nx ls st (HS t (up m a k x)) o h') : Ev (PP L xs) d j pc ls (vI x :: vI i :: vR (some a) :: st) (HS t m) o h' := by
  subst hi
  refine ev_step (pc' := nx) (ls' := ls) (st' := st) (h1 := HS t (up m a k x)) hf ?_ kk
  show (bif ka (HS t m) a 1 (k : Int) then _ else none) = _
  rw [show ka (HS t m) a 1 (k : Int) = true from kd_ka hk hlt]; rfl
theorem ev_last {a n k : Nat} {i x : Int} (hf : lk (dC (PP L xs j)) pc = some (mo_last nx)) (hk : kd a = (2, n)) (hi : i = (k : Int)) (hlt : k < n) (kk : Ev (PP L xs) d j nx ls st (HS t (up m a k x)) o h') : Ev (PP L xs) d j pc ls (vJ x :: vI i :: vR (some a) :: st) (HS t m) o h' := by
  subst hi
  refine ev_step (pc' := nx) (ls' := ls) (st' := st) (h1 := HS t (up m a k x)) hf ?_ kk
  show (bif ka (HS t m) a 2 (k : Int) then _ else none) = _
  rw [show ka (HS t m) a 2 (k : Int) = true from kd_ka hk hlt]; rfl
theorem ev_zast {a n k : Nat} {i x : Int} (hf : lk (dC (PP L xs j)) pc = some (mo_zast nx)) (hk : kd a = (3, n)) (hi : i = (k : Int)) (hlt : k < n) (hz : x = 0 ∨ x = 1) (kk : Ev (PP L xs) d j nx ls st (HS t (up m a k x)) o h') : Ev (PP L xs) d j pc ls (vI x :: vI i :: vR (some a) :: st) (HS t m) o h' := by
  subst hi
  refine ev_step (pc' := nx) (ls' := ls) (st' := st) (h1 := HS t (up m a k x)) hf ?_ kk
  show (bif ka (HS t m) a 3 (k : Int) && (decide (x = 0) || decide (x = 1)) then _ else none) = _
  rw [show ka (HS t m) a 3 (k : Int) = true from kd_ka hk hlt]
  rcases hz with rfl | rfl <;> rfl
theorem ev_alen {a n q : Nat} (hf : lk (dC (PP L xs j)) pc = some (mo_alen q nx)) (hk : kd a = (q, n)) (kk : Ev (PP L xs) d j nx ls (vI (n : Int) :: st) (HS t m) o h') : Ev (PP L xs) d j pc ls (vR (some a) :: st) (HS t m) o h' := by
  refine ev_step (pc' := nx) (ls' := ls) (st' := vI (n : Int) :: st) (h1 := HS t m) hf ?_ kk
  show (bif Nat.beq (mK (HS t m) a).1 q then nxt nx ls (vI ((mK (HS t m) a).2 : Int) :: st) (HS t m) else none) = _
  rw [show mK (HS t m) a = (q, n) from hk, nb_eq]; rfl
theorem ev_idiv {x y : Int} (hf : lk (dC (PP L xs j)) pc = some (mo_idiv nx)) (hx : inI x = true) (hy : inI y = true) (h0 : 0 < y) (kk : Ev (PP L xs) d j nx ls (vI (x.tdiv y) :: st) (HS t m) o h') : Ev (PP L xs) d j pc ls (vI y :: vI x :: st) (HS t m) o h' := by
  refine ev_step (pc' := nx) (ls' := ls) (st' := vI (x.tdiv y) :: st) (h1 := HS t m) hf ?_ kk
  show (bif inI x && (inI y && decide (0 < y)) then _ else none) = _
  rw [hx, hy, decide_eq_true h0]; rfl
theorem ev_irem {x y : Int} (hf : lk (dC (PP L xs j)) pc = some (mo_irem nx)) (hx : inI x = true) (hy : inI y = true) (h0 : 0 < y) (kk : Ev (PP L xs) d j nx ls (vI (x.tmod y) :: st) (HS t m) o h') : Ev (PP L xs) d j pc ls (vI y :: vI x :: st) (HS t m) o h' := by
  refine ev_step (pc' := nx) (ls' := ls) (st' := vI (x.tmod y) :: st) (h1 := HS t m) hf ?_ kk
  show (bif inI x && (inI y && decide (0 < y)) then _ else none) = _
  rw [hx, hy, decide_eq_true h0]; rfl
theorem ev_ldiv {x y : Int} (hf : lk (dC (PP L xs j)) pc = some (mo_ldiv nx)) (hx : inJ x = true) (hy : inJ y = true) (h0 : 0 < y) (kk : Ev (PP L xs) d j nx ls (vJ (x.tdiv y) :: st) (HS t m) o h') : Ev (PP L xs) d j pc ls (vJ y :: vJ x :: st) (HS t m) o h' := by
  refine ev_step (pc' := nx) (ls' := ls) (st' := vJ (x.tdiv y) :: st) (h1 := HS t m) hf ?_ kk
  show (bif inJ x && (inJ y && decide (0 < y)) then _ else none) = _
  rw [hx, hy, decide_eq_true h0]; rfl
theorem ev_lcmp {x y : Int} (hf : lk (dC (PP L xs j)) pc = some (mo_lcmp nx)) (hx : inJ x = true) (hy : inJ y = true) (kk : Ev (PP L xs) d j nx ls (vI (if x < y then -1 else if x = y then 0 else 1) :: st) (HS t m) o h') : Ev (PP L xs) d j pc ls (vJ y :: vJ x :: st) (HS t m) o h' := by
  refine ev_step (pc' := nx) (ls' := ls) (st' := vI (if x < y then -1 else if x = y then 0 else 1) :: st) (h1 := HS t m) hf ?_ kk
  show (bif inJ x && inJ y then _ else none) = _
  rw [hx, hy]; rfl
theorem ev_i2l {x : Int} (hf : lk (dC (PP L xs j)) pc = some (mo_i2l nx)) (hx : inI x = true) (kk : Ev (PP L xs) d j nx ls (vJ x :: st) (HS t m) o h') : Ev (PP L xs) d j pc ls (vI x :: st) (HS t m) o h' := by
  refine ev_step (pc' := nx) (ls' := ls) (st' := vJ x :: st) (h1 := HS t m) hf ?_ kk
  show (bif inI x then _ else none) = _
  rw [hx]; rfl
theorem ev_iand {x y : Nat} (hf : lk (dC (PP L xs j)) pc = some (mo_iand nx)) (hx : x < 2147483648) (hy : y < 2147483648) (kk : Ev (PP L xs) d j nx ls (vI ((x &&& y : Nat) : Int) :: st) (HS t m) o h') : Ev (PP L xs) d j pc ls (vI (y : Int) :: vI (x : Int) :: st) (HS t m) o h' := by
  refine ev_step (pc' := nx) (ls' := ls) (st' := vI ((x &&& y : Nat) : Int) :: st) (h1 := HS t m) hf ?_ kk
  have e1 := inI_of (x := (x : Int)) (by omega) (by omega)
  have e2 := inI_of (x := (y : Int)) (by omega) (by omega)
  simp [mo_iand, nxt, e1, e2]
theorem ev_ior {x y : Nat} (hf : lk (dC (PP L xs j)) pc = some (mo_ior nx)) (hx : x < 2147483648) (hy : y < 2147483648) (kk : Ev (PP L xs) d j nx ls (vI ((x ||| y : Nat) : Int) :: st) (HS t m) o h') : Ev (PP L xs) d j pc ls (vI (y : Int) :: vI (x : Int) :: st) (HS t m) o h' := by
  refine ev_step (pc' := nx) (ls' := ls) (st' := vI ((x ||| y : Nat) : Int) :: st) (h1 := HS t m) hf ?_ kk
  have e1 := inI_of (x := (x : Int)) (by omega) (by omega)
  have e2 := inI_of (x := (y : Int)) (by omega) (by omega)
  simp [mo_ior, nxt, e1, e2]
theorem ev_min {x y : Int} (hf : lk (dC (PP L xs j)) pc = some (mo_min nx)) (hx : inI x = true) (hy : inI y = true) (hr : roomy st = true) (kk : Ev (PP L xs) d j nx ls (vI (if y < x then y else x) :: st) (HS t m) o h') : Ev (PP L xs) d j pc ls (vI y :: vI x :: st) (HS t m) o h' := by
  refine ev_step (pc' := nx) (ls' := ls) (st' := vI (if y < x then y else x) :: st) (h1 := HS t m) hf ?_ kk
  show (bif inI x && (inI y && roomy st) then _ else none) = _
  rw [hx, hy, hr]; rfl
theorem ev_zret {x : Int} (hf : lk (dC (PP L xs j)) pc = some mo_zret) (hz : x = 0 ∨ x = 1) {v : Option mMV} (hv : v = some (vI x)) : Ev (PP L xs) d j pc ls [vI x] (HS t m) (.inl v) (HS t m) := by
  subst hv
  refine ev_ret hf ?_
  show (bif decide (x = 0) || decide (x = 1) then _ else none) = _
  rcases hz with rfl | rfl <;> rfl
end EVS
