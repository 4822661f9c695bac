/-! ===== more rules: bits of words and paths ===== -/
theorem or_add {x b k : Nat} (hb : b < 2 ^ k) : (x * 2 ^ k) ||| b = x * 2 ^ k + b := by
  rw [Nat.mul_comm]; exact (Nat.two_pow_add_eq_or_of_lt hb x).symm
theorem and_mask (x q r : Nat) : x &&& ((2 ^ q - 1) * 2 ^ r) = (x / 2 ^ r % 2 ^ q) * 2 ^ r := by
  apply Nat.eq_of_testBit_eq
  intro i
  rw [Nat.testBit_and, Nat.testBit_mul_two_pow, Nat.testBit_mul_two_pow, Nat.testBit_two_pow_sub_one, Nat.testBit_mod_two_pow, Nat.testBit_div_two_pow]
  by_cases h : r ≤ i
  · rw [show i - r + r = i by omega]; simp [h, Bool.and_comm, Bool.and_assoc]
  · simp [h]
section EVM
variable {L : Nat} {xs : Nat → Int32} {d j pc nx tgt : Nat} {ls : mLS} {st : mST} {t : Bool × Nat × Nat} {m : mMM} {o : Option mMV ⊕ Nat} {h' : mMH}
theorem ev_iorA {x y : Int} (k : Nat) {z : Int} (hf : lk (dC (PP L xs j)) pc = some (mo_ior nx)) (hx : x = z * 2 ^ k) (hz : 0 ≤ z) (hb : x < 2147483648) (hy : 0 ≤ y) (hy2 : y < 2 ^ k) (hk : k < 31) (kk : Ev (PP L xs) d j nx ls (vI (x + y) :: st) (HS t m) o h') : Ev (PP L xs) d j pc ls (vI y :: vI x :: st) (HS t m) o h' := by
  obtain ⟨a, rfl⟩ := Int.eq_ofNat_of_zero_le hz
  obtain ⟨b, rfl⟩ := Int.eq_ofNat_of_zero_le hy
  have hx' : x = ((a * 2 ^ k : Nat) : Int) := by rw [hx]; norm_cast
  subst hx'
  have hb2 : b < 2 ^ k := by exact_mod_cast hy2
  have h31 : (2 : Nat) ^ k < 2147483648 := by
    have := Nat.pow_lt_pow_right (a := 2) (by decide) hk; exact this
  refine ev_ior hf (by omega) (by omega) ?_
  rw [or_add hb2]
  exact_mod_cast kk
theorem ev_iandA {x y : Int} (q r : Nat) (hf : lk (dC (PP L xs j)) pc = some (mo_iand nx)) (hx : 0 ≤ x) (hb : x < 2147483648) (hy : y = (((2 ^ q - 1) * 2 ^ r : Nat) : Int)) (hy2 : (2 ^ q - 1) * 2 ^ r < 2147483648) (kk : Ev (PP L xs) d j nx ls (vI ((x / 2 ^ r % 2 ^ q) * 2 ^ r) :: st) (HS t m) o h') : Ev (PP L xs) d j pc ls (vI y :: vI x :: st) (HS t m) o h' := by
  obtain ⟨a, rfl⟩ := Int.eq_ofNat_of_zero_le hx
  subst hy
  refine ev_iand hf (by omega) hy2 ?_
  rw [and_mask]
  exact_mod_cast kk
theorem ev_ishr {x y : Int} (hf : lk (dC (PP L xs j)) pc = some (mo_ishr nx)) (hx : inI x = true) (hy : 0 ≤ y) (hy2 : y < 32) (kk : Ev (PP L xs) d j nx ls (vI (x / 2 ^ y.toNat) :: st) (HS t m) o h') : Ev (PP L xs) d j pc ls (vI y :: vI x :: st) (HS t m) o h' := by
  refine ev_step (pc' := nx) (ls' := ls) (st' := vI (x / 2 ^ y.toNat) :: st) (h1 := HS t m) hf ?_ kk
  simp [mo_ishr, nxt, hx, hy, hy2]
theorem ev_ishl {x y : Int} (hf : lk (dC (PP L xs j)) pc = some (mo_ishl nx)) (hy : 0 ≤ y) (hy2 : y < 32) (kk : Ev (PP L xs) d j nx ls (vI (x * 2 ^ y.toNat) :: st) (HS t m) o h') : Ev (PP L xs) d j pc ls (vI y :: vI x :: st) (HS t m) o h' := by
  refine ev_step (pc' := nx) (ls' := ls) (st' := vI (x * 2 ^ y.toNat) :: st) (h1 := HS t m) hf ?_ kk
  simp [mo_ishl, nxt, hy, hy2]
end EVM
theorem up_eq (m : mMM) (a k : Nat) (v : Int) : up m a k v a k = v := by simp [up]
theorem up_ne (m : mMM) {a k b l : Nat} (v : Int) (h : ¬ (b = a ∧ l = k)) : up m a k v b l = m b l := by
  simp only [up]
  by_cases c : b = a
  · by_cases e : l = k
    · exact absurd ⟨c, e⟩ h
    · rw [if_pos c, if_neg e]
  · rw [if_neg c]
theorem up_ne1 (m : mMM) {a k b l : Nat} (v : Int) (h : b ≠ a) : up m a k v b l = m b l := up_ne m v (fun x => h x.1)
theorem up_ne2 (m : mMM) {a k b l : Nat} (v : Int) (h : l ≠ k) : up m a k v b l = m b l := up_ne m v (fun x => h x.2)
section EVV
variable {L : Nat} {xs : Nat → Int32} {d j pc nx tgt : Nat} {ls : mLS} {st : mST} {t : Bool × Nat × Nat} {m : mMM} {o : Option mMV ⊕ Nat} {h' : mMH}
theorem ev_getIv {a c k : Nat} (hf : lk (dC (PP L xs j)) pc = some (mo_getI c k nx)) (hk : kd a = (0, c)) {v : Int} (hv : m a k = v) (kk : Ev (PP L xs) d j nx ls (vI v :: st) (HS t m) o h') : Ev (PP L xs) d j pc ls (vR (some a) :: st) (HS t m) o h' := by
  subst hv; exact ev_getI hf hk kk
theorem ev_getJv {a c k : Nat} (hf : lk (dC (PP L xs j)) pc = some (mo_getJ c k nx)) (hk : kd a = (0, c)) {v : Int} (hv : m a k = v) (kk : Ev (PP L xs) d j nx ls (vJ v :: st) (HS t m) o h') : Ev (PP L xs) d j pc ls (vR (some a) :: st) (HS t m) o h' := by
  subst hv; exact ev_getJ hf hk kk
theorem ev_ialdv {a n k : Nat} {i : Int} (hf : lk (dC (PP L xs j)) pc = some (mo_iald nx)) (hk : kd a = (1, n)) (hi : i = (k : Int)) (hlt : k < n) {v : Int} (hv : m a k = v) (kk : Ev (PP L xs) d j nx ls (vI v :: st) (HS t m) o h') : Ev (PP L xs) d j pc ls (vI i :: vR (some a) :: st) (HS t m) o h' := by
  subst hv; exact ev_iald hf hk hi hlt kk
theorem ev_laldv {a n k : Nat} {i : Int} (hf : lk (dC (PP L xs j)) pc = some (mo_lald nx)) (hk : kd a = (2, n)) (hi : i = (k : Int)) (hlt : k < n) {v : Int} (hv : m a k = v) (kk : Ev (PP L xs) d j nx ls (vJ v :: st) (HS t m) o h') : Ev (PP L xs) d j pc ls (vI i :: vR (some a) :: st) (HS t m) o h' := by
  subst hv; exact ev_lald hf hk hi hlt kk
theorem ev_zaldv {a n k : Nat} {i : Int} (hf : lk (dC (PP L xs j)) pc = some (mo_zald nx)) (hk : kd a = (3, n)) (hi : i = (k : Int)) (hlt : k < n) {v : Int} (hv : m a k = v) (kk : Ev (PP L xs) d j nx ls (vI v :: st) (HS t m) o h') : Ev (PP L xs) d j pc ls (vI i :: vR (some a) :: st) (HS t m) o h' := by
  subst hv; exact ev_zald hf hk hi hlt kk
end EVV
