section SON
theorem m_fand (a b : Nat) : nI a &&& nI b = nI (a &&& b) := by
  apply Int32.toBitVec_inj.mp
  show (nI a).toBitVec &&& (nI b).toBitVec = _
  simp [nI, Int32.toBitVec_ofNat', BitVec.ofNat_and]
theorem m_for (a b : Nat) : nI a ||| nI b = nI (a ||| b) := by
  apply Int32.toBitVec_inj.mp
  show (nI a).toBitVec ||| (nI b).toBitVec = _
  simp [nI, Int32.toBitVec_ofNat', BitVec.ofNat_or]
theorem m_eq {x y : Int} (hx : inI x = true) (hy : inI y = true) : Int32.ofInt x = Int32.ofInt y ↔ mrel 0 x y = true := (i32_eq hx hy).trans (by simp [mrel])
theorem m_ne {x y : Int} (hx : inI x = true) (hy : inI y = true) : ¬ Int32.ofInt x = Int32.ofInt y ↔ mrel 1 x y = true := (not_congr (i32_eq hx hy)).trans (by simp [mrel])
theorem m_lt {x y : Int} (hx : inI x = true) (hy : inI y = true) : Int32.ofInt x < Int32.ofInt y ↔ mrel 2 x y = true := (i32_lt hx hy).trans (by simp [mrel])
theorem m_ge {x y : Int} (hx : inI x = true) (hy : inI y = true) : Int32.ofInt y ≤ Int32.ofInt x ↔ mrel 3 x y = true := (i32_le hy hx).trans (by simp [mrel])
theorem m_gt {x y : Int} (hx : inI x = true) (hy : inI y = true) : Int32.ofInt y < Int32.ofInt x ↔ mrel 4 x y = true := (i32_lt hy hx).trans (by simp [mrel])
theorem m_le {x y : Int} (hx : inI x = true) (hy : inI y = true) : Int32.ofInt x ≤ Int32.ofInt y ↔ mrel 5 x y = true := (i32_le hx hy).trans (by simp [mrel])
theorem m_bnd {x : Int} (hx : inI x = true) : -2147483648 ≤ x ∧ x < 2147483648 := by
  simp only [inI, Bool.and_eq_true, decide_eq_true_eq] at hx; exact hx
theorem m_bndJ {x : Int} (hx : inJ x = true) : -9223372036854775808 ≤ x ∧ x < 9223372036854775808 := by
  simp only [inJ, Bool.and_eq_true, decide_eq_true_eq] at hx; exact hx
theorem m_div {x y : Int} (hx : inI x = true) (hy : inI y = true) (h0 : 0 < y) : Int32.ofInt x / Int32.ofInt y = Int32.ofInt (x.tdiv y) := by
  have h1 := m_bnd hx
  have h2 := m_bnd hy
  exact (Int32.ofInt_tdiv (by show (-2147483648 : Int) ≤ x; omega) (by show x ≤ (2147483647 : Int); omega) (by show (-2147483648 : Int) ≤ y; omega) (by show y ≤ (2147483647 : Int); omega)).symm
theorem m_rem {x y : Int} (hx : inI x = true) (hy : inI y = true) (h0 : 0 < y) : Int32.ofInt x - Int32.ofInt x / Int32.ofInt y * Int32.ofInt y = Int32.ofInt (x.tmod y) := by
  rw [m_div hx hy h0, ← Int32.ofInt_mul, ← Int32.ofInt_sub]
  congr 1
  have := Int.mul_tdiv_add_tmod x y
  rw [Int.mul_comm] at this
  omega
theorem m_ldiv {x y : Int} (hx : inJ x = true) (hy : inJ y = true) (h0 : 0 < y) : Int64.ofInt x / Int64.ofInt y = Int64.ofInt (x.tdiv y) := by
  have h1 := m_bndJ hx
  have h2 := m_bndJ hy
  exact (Int64.ofInt_tdiv (by show (-9223372036854775808 : Int) ≤ x; omega) (by show x ≤ (9223372036854775807 : Int); omega) (by show (-9223372036854775808 : Int) ≤ y; omega) (by show y ≤ (9223372036854775807 : Int); omega)).symm
theorem m_cmp {x y : Int} (hx : inJ x = true) (hy : inJ y = true) : lg_cmp (Int64.ofInt x) (Int64.ofInt y) = Int32.ofInt (if x < y then -1 else if x = y then 0 else 1) := by
  unfold lg_cmp
  by_cases q : x < y
  · rw [if_pos q, if_neg (by rw [gt_iff_lt, i64_lt hy hx]; omega), if_neg (by rw [i64_eq hx hy]; omega)]; rfl
  · rw [if_neg q]
    by_cases z : x = y
    · rw [if_pos z, if_neg (by rw [gt_iff_lt, i64_lt hy hx]; omega), if_pos (by rw [i64_eq hx hy]; exact z)]; rfl
    · rw [if_neg z, if_pos (by rw [gt_iff_lt, i64_lt hy hx]; omega)]; rfl
theorem m_nI {x : Int} (h : 0 ≤ x) : Int32.ofInt x = nI x.toNat := by
  show Int32.ofInt x = Int32.ofNat x.toNat
  rw [← Int32.ofInt_eq_ofNat, Int.toNat_of_nonneg h]
theorem m_and {x y : Int} (hy : inI y = true) (hx : inI x = true) (h2 : 0 ≤ y) (h1 : 0 ≤ x) : Int32.ofInt x &&& Int32.ofInt y = Int32.ofInt ((x.toNat &&& y.toNat : Nat) : Int) := by
  rw [m_nI h1, m_nI h2, m_nI (Int.natCast_nonneg _), Int.toNat_natCast]
  exact m_fand _ _
theorem m_or {x y : Int} (hy : inI y = true) (hx : inI x = true) (h2 : 0 ≤ y) (h1 : 0 ≤ x) : Int32.ofInt x ||| Int32.ofInt y = Int32.ofInt ((x.toNat ||| y.toNat : Nat) : Int) := by
  rw [m_nI h1, m_nI h2, m_nI (Int.natCast_nonneg _), Int.toNat_natCast]
  exact m_for _ _
theorem m_bvn (x : Int) : (Int32.ofInt x).toBitVec.toNat = (x % 4294967296).toNat := by
  show (BitVec.ofInt 32 x).toNat = _
  rw [BitVec.toNat_ofInt]
  rfl
theorem m_15 {x : Int} : Int32.ofInt x &&& Int32.ofInt 15 = Int32.ofInt (x % 16) := by
  rw [pk_and (Int32.ofInt x) (m := Int32.ofInt 15) 4 (by decide +kernel), m_bvn, m_nI (by omega)]
  congr 1
  omega
theorem m_amt : ∀ n : Nat, n < 32 → ((Int32.ofInt (n : Int) &&& 31).toBitVec.smod 32).toNat = n := by decide +kernel
theorem m_shl {x y : Int} (h0 : 0 ≤ y) (h1 : y < 32) : Int32.ofInt x <<< (Int32.ofInt y &&& 31) = Int32.ofInt (x * 2 ^ y.toNat) := by
  obtain ⟨n, rfl⟩ := Int.eq_ofNat_of_zero_le h0
  have hn : n < 32 := by omega
  apply Int32.toBitVec_inj.mp
  apply BitVec.eq_of_toNat_eq
  rw [pk_shl _ _ n (m_amt n hn), m_bvn, m_bvn, Int.toNat_natCast]
  have e : ((2 : Int) ^ n) = ((2 ^ n : Nat) : Int) := by rw [Int.natCast_pow]; rfl
  rw [e]
  generalize 2 ^ n = t
  have h2 : ((x % 4294967296).toNat : Int) = x % 4294967296 := Int.toNat_of_nonneg (by omega)
  have h3 : (((x * (t : Int)) % 4294967296).toNat : Int) = (x * (t : Int)) % 4294967296 := Int.toNat_of_nonneg (by omega)
  apply Int.ofNat_inj.mp
  rw [h3]
  show (((x % 4294967296).toNat * t % 4294967296 : Nat) : Int) = _
  rw [Int.natCast_emod, Int.natCast_mul, h2]
  show (x % 4294967296 * (t : Int)) % 4294967296 = _
  rw [Int.mul_emod, Int.emod_emod_of_dvd _ (Int.dvd_refl _), ← Int.mul_emod]
theorem m_shr {x y : Int} (hx : inI x = true) (h0 : 0 ≤ y) (h1 : y < 32) : Int32.ofInt x >>> (Int32.ofInt y &&& 31) = Int32.ofInt (x / 2 ^ y.toNat) := by
  obtain ⟨n, rfl⟩ := Int.eq_ofNat_of_zero_le h0
  have hn : n < 32 := by omega
  apply Int32.toInt_inj.mp
  rw [pk_shr _ _ n (m_amt n hn), i32 hx, Int.toNat_natCast, Int.shiftRight_eq_div_pow]
  have h2 := m_bnd hx
  have h3 : (0 : Int) < 2 ^ n := Int.pow_pos (by omega)
  have h4 : inI (x / 2 ^ n) = true := by
    simp only [inI, Bool.and_eq_true, decide_eq_true_eq]
    rcases Int.le_total 0 x with q | q
    · have := Int.ediv_nonneg q (Int.le_of_lt h3)
      have := Int.ediv_le_self (2 ^ n) q
      omega
    · have h5 := Int.le_ediv_of_mul_le h3 (a := x) (b := x) (by
        have : x * 2 ^ n ≤ x * 1 := Int.mul_le_mul_of_nonpos_left q (by omega)
        omega)
      have h6 : x / 2 ^ n < 1 := Int.ediv_lt_of_lt_mul h3 (by omega)
      omega
  rw [show (((2 ^ n : Nat)) : Int) = (2 : Int) ^ n from by rw [Int.natCast_pow]; rfl]
  exact (i32 h4).symm
theorem m_i2l {x : Int} (hx : inI x = true) : (Int32.ofInt x).toInt64 = Int64.ofInt x := by
  have h := m_bnd hx
  apply Int64.toInt_inj.mp
  rw [Int32.toInt_toInt64, i32 hx, i64 (by simp only [inJ, Bool.and_eq_true, decide_eq_true_eq]; omega)]
theorem m_l2i (x : Int) : (Int64.ofInt x).toInt32 = Int32.ofInt x := by
  simp
theorem m_i2c (x : Int) : ((Int32.ofInt x).toUInt32 % 65536).toInt32 = Int32.ofInt (x % 65536) := by
  rw [pk_char, m_bvn, m_nI (by omega)]
  congr 1
  omega
theorem m_iw (z : Int) : Int32.ofInt (z.bmod 4294967296) = Int32.ofInt z := by
  apply Int32.toInt_inj.mp
  rw [Int32.toInt_ofInt, Int32.toInt_ofInt]
  exact Int.bmod_bmod
theorem m_1 {x : Int} : Int32.ofInt x &&& Int32.ofInt 1 = Int32.ofInt (x % 2) := by
  rw [pk_and (Int32.ofInt x) (m := Int32.ofInt 1) 1 (by decide +kernel), m_bvn, m_nI (by omega)]
  congr 1
  omega
theorem m_7 {x : Int} : Int32.ofInt x &&& Int32.ofInt 7 = Int32.ofInt (x % 8) := by
  rw [pk_and (Int32.ofInt x) (m := Int32.ofInt 7) 3 (by decide +kernel), m_bvn, m_nI (by omega)]
  congr 1
  omega
theorem m_31 {x : Int} : Int32.ofInt x &&& Int32.ofInt 31 = Int32.ofInt (x % 32) := by
  rw [pk_and (Int32.ofInt x) (m := Int32.ofInt 31) 5 (by decide +kernel), m_bvn, m_nI (by omega)]
  congr 1
  omega
theorem m_27 {x : Int} : Int32.ofInt x &&& Int32.ofInt 134217727 = Int32.ofInt (x % 134217728) := by
  rw [pk_and (Int32.ofInt x) (m := Int32.ofInt 134217727) 27 (by decide +kernel), m_bvn, m_nI (by omega)]
  congr 1
  omega
theorem m_bvnJ (x : Int) : (Int64.ofInt x).toBitVec.toNat = (x % 18446744073709551616).toNat := by
  show (BitVec.ofInt 64 x).toNat = _
  rw [BitVec.toNat_ofInt]
  rfl
theorem m_amtJ : ∀ n : Nat, n < 64 → (((Int32.ofInt (n : Int)).toInt64 &&& 63).toBitVec.smod 64).toNat = n := by decide +kernel
theorem m_lshl {x y : Int} (h0 : 0 ≤ y) (h1 : y < 64) : Int64.ofInt x <<< ((Int32.ofInt y).toInt64 &&& 63) = Int64.ofInt (x * 2 ^ y.toNat) := by
  obtain ⟨n, rfl⟩ := Int.eq_ofNat_of_zero_le h0
  have hn : n < 64 := by omega
  apply Int64.toBitVec_inj.mp
  apply BitVec.eq_of_toNat_eq
  have e0 : (Int64.ofInt x <<< ((Int32.ofInt ((n : Nat) : Int)).toInt64 &&& 63)).toBitVec.toNat = (Int64.ofInt x).toBitVec.toNat * 2 ^ n % 2 ^ 64 := by
    show ((Int64.ofInt x).toBitVec <<< ((((Int32.ofInt ((n : Nat) : Int)).toInt64 &&& 63).toBitVec.smod 64).toNat)).toNat = _
    rw [m_amtJ n hn, BitVec.toNat_shiftLeft, Nat.shiftLeft_eq]
  rw [e0, m_bvnJ, m_bvnJ, Int.toNat_natCast]
  have e : ((2 : Int) ^ n) = ((2 ^ n : Nat) : Int) := by rw [Int.natCast_pow]; rfl
  rw [e]
  generalize 2 ^ n = t
  have h2 : ((x % 18446744073709551616).toNat : Int) = x % 18446744073709551616 := Int.toNat_of_nonneg (by omega)
  have h3 : (((x * (t : Int)) % 18446744073709551616).toNat : Int) = (x * (t : Int)) % 18446744073709551616 := Int.toNat_of_nonneg (by omega)
  apply Int.ofNat_inj.mp
  rw [h3]
  show (((x % 18446744073709551616).toNat * t % 18446744073709551616 : Nat) : Int) = _
  rw [Int.natCast_emod, Int.natCast_mul, h2]
  show (x % 18446744073709551616 * (t : Int)) % 18446744073709551616 = _
  rw [Int.mul_emod, Int.emod_emod_of_dvd _ (Int.dvd_refl _), ← Int.mul_emod]
theorem m_lshr {x y : Int} (hx : inJ x = true) (h0 : 0 ≤ y) (h1 : y < 64) : Int64.ofInt x >>> ((Int32.ofInt y).toInt64 &&& 63) = Int64.ofInt (x / 2 ^ y.toNat) := by
  obtain ⟨n, rfl⟩ := Int.eq_ofNat_of_zero_le h0
  have hn : n < 64 := by omega
  apply Int64.toInt_inj.mp
  have e0 : (Int64.ofInt x >>> ((Int32.ofInt ((n : Nat) : Int)).toInt64 &&& 63)).toInt = (Int64.ofInt x).toInt >>> n := by
    show ((Int64.ofInt x).toBitVec.sshiftRight ((((Int32.ofInt ((n : Nat) : Int)).toInt64 &&& 63).toBitVec.smod 64).toNat)).toInt = _
    rw [m_amtJ n hn, BitVec.toInt_sshiftRight]
    rfl
  rw [e0, i64 hx, Int.toNat_natCast, Int.shiftRight_eq_div_pow]
  have h2 := m_bndJ hx
  have h3 : (0 : Int) < 2 ^ n := Int.pow_pos (by omega)
  have h4 : inJ (x / 2 ^ n) = true := by
    simp only [inJ, Bool.and_eq_true, decide_eq_true_eq]
    rcases Int.le_total 0 x with q | q
    · have := Int.ediv_nonneg q (Int.le_of_lt h3)
      have := Int.ediv_le_self (2 ^ n) q
      omega
    · have h5 := Int.le_ediv_of_mul_le h3 (a := x) (b := x) (by
        have : x * 2 ^ n ≤ x * 1 := Int.mul_le_mul_of_nonpos_left q (by omega)
        omega)
      have h6 : x / 2 ^ n < 1 := Int.ediv_lt_of_lt_mul h3 (by omega)
      omega
  rw [show (((2 ^ n : Nat)) : Int) = (2 : Int) ^ n from by rw [Int.natCast_pow]; rfl]
  exact (i64 h4).symm
end SON
/-! ===== the ops, one by one ===== -/
section SOB
variable {P : Nat → mMD} {B b L : Nat} {xs : Nat → Int32} {D : va_G} {aC : Nat → ClassId} {p : Program} {l : Launch} {e : Env} {R : Room} {s : State} {m : MethodId} {args : Array Value} {below : List Frame} {meth : Method} {c : Code} {md : mMD} {d c0 s0 : Nat} {Q : State → Prop} {pc : Nat}
theorem bq {α : Type} {c : Bool} {x : Option α} {r : α} (h : (bif c then x else none) = some r) : c = true ∧ x = some r := by
  cases c
  · cases h
  · exact ⟨rfl, h⟩
theorem b2 {a b : Bool} (h : (a && b) = true) : a = true ∧ b = true := by
  rw [Bool.and_eq_true] at h; exact h

theorem so_iconst {n : Int} (X : Cx B b L xs D aC p l R s m args meth c md d) (hd : decode (dB md) pc = .ok (.iconst n, 1)) : SO P B b L xs D aC p l e R s m args below meth c md d c0 s0 Q pc (mo_const (vI n) (pc + 1)) := by
  obtain ⟨hx, hb, hml, hown, hts, hlk, hst, hK, hG, hRm, htb, hnm⟩ := X
  intro lsl stl h r hf
  obtain rfl := Option.some.inj hf
  exact so_pu fun H locs ls cells slots hH hS hl kk => lv_iconst hx hb hd rfl kk

theorem so_bipush {n : Int} (X : Cx B b L xs D aC p l R s m args meth c md d) (hv : (Int8.ofInt n).toInt32 = Int32.ofInt n) (hd : decode (dB md) pc = .ok (.bipush n, 2)) : SO P B b L xs D aC p l e R s m args below meth c md d c0 s0 Q pc (mo_const (vI n) (pc + 2)) := by
  obtain ⟨hx, hb, hml, hown, hts, hlk, hst, hK, hG, hRm, htb, hnm⟩ := X
  intro lsl stl h r hf
  obtain rfl := Option.some.inj hf
  exact so_pu fun H locs ls cells slots hH hS hl kk => lv_bipush hx hb hd hv kk

theorem so_sipush {n : Int} (X : Cx B b L xs D aC p l R s m args meth c md d) (hv : (Int16.ofInt n).toInt32 = Int32.ofInt n) (hd : decode (dB md) pc = .ok (.sipush n, 3)) : SO P B b L xs D aC p l e R s m args below meth c md d c0 s0 Q pc (mo_const (vI n) (pc + 3)) := by
  obtain ⟨hx, hb, hml, hown, hts, hlk, hst, hK, hG, hRm, htb, hnm⟩ := X
  intro lsl stl h r hf
  obtain rfl := Option.some.inj hf
  exact so_pu fun H locs ls cells slots hH hS hl kk => lv_sipush hx hb hd hv kk

theorem so_lconst {n : Fin 2} (X : Cx B b L xs D aC p l R s m args meth c md d) (hd : decode (dB md) pc = .ok (.lconst n, 1)) : SO P B b L xs D aC p l e R s m args below meth c md d c0 s0 Q pc (mo_const (vJ ((n : Nat) : Int)) (pc + 1)) := by
  obtain ⟨hx, hb, hml, hown, hts, hlk, hst, hK, hG, hRm, htb, hnm⟩ := X
  intro lsl stl h r hf
  obtain rfl := Option.some.inj hf
  exact so_pu fun H locs ls cells slots hH hS hl kk => lv_lconst hx hb hd rfl kk

theorem so_ldc {n : Int} {i : Nat} (X : Cx B b L xs D aC p l R s m args meth c md d) (hw : Cond.constant (dY md).cls i (Int32.ofInt n) ∈ w_all) (hd : decode (dB md) pc = .ok (.ldc i, 2)) : SO P B b L xs D aC p l e R s m args below meth c md d c0 s0 Q pc (mo_const (vI n) (pc + 2)) := by
  obtain ⟨hx, hb, hml, hown, hts, hlk, hst, hK, hG, hRm, htb, hnm⟩ := X
  intro lsl stl h r hf
  obtain rfl := Option.some.inj hf
  exact so_pu fun H locs ls cells slots hH hS hl kk => lv_ldc hx hb hown (hts _ hw) hd kk

theorem so_ldc2 {n : Int} {i : Nat} (X : Cx B b L xs D aC p l R s m args meth c md d) (hw : Cond.constantLong (dY md).cls i (Int64.ofInt n) ∈ w_all) (hd : decode (dB md) pc = .ok (.ldc2_w i, 3)) : SO P B b L xs D aC p l e R s m args below meth c md d c0 s0 Q pc (mo_const (vJ n) (pc + 3)) := by
  obtain ⟨hx, hb, hml, hown, hts, hlk, hst, hK, hG, hRm, htb, hnm⟩ := X
  intro lsl stl h r hf
  obtain rfl := Option.some.inj hf
  exact so_pu fun H locs ls cells slots hH hS hl kk => lv_ldc2 hx hb hown (hts _ hw) hd kk

theorem so_iload_n {k : Fin 4} (X : Cx B b L xs D aC p l R s m args meth c md d) (hd : decode (dB md) pc = .ok (.iload_n k, 1)) : SO P B b L xs D aC p l e R s m args below meth c md d c0 s0 Q pc (mo_iload (k : Nat) (pc + 1)) := by
  obtain ⟨hx, hb, hml, hown, hts, hlk, hst, hK, hG, hRm, htb, hnm⟩ := X
  intro lsl stl h r hf
  unfold mo_iload at hf
  split at hf
  · rename_i x h1
    obtain rfl := Option.some.inj hf
    exact so_pu fun H locs ls cells slots hH hS hl kk => lv_iload_n hx hb hd rfl (hl.at h1) kk
  · cases hf

theorem so_iload {k : Nat} (X : Cx B b L xs D aC p l R s m args meth c md d) (hd : decode (dB md) pc = .ok (.iload k, 2)) : SO P B b L xs D aC p l e R s m args below meth c md d c0 s0 Q pc (mo_iload k (pc + 2)) := by
  obtain ⟨hx, hb, hml, hown, hts, hlk, hst, hK, hG, hRm, htb, hnm⟩ := X
  intro lsl stl h r hf
  unfold mo_iload at hf
  split at hf
  · rename_i x h1
    obtain rfl := Option.some.inj hf
    exact so_pu fun H locs ls cells slots hH hS hl kk => lv_iload hx hb hd (hl.at h1) kk
  · cases hf

theorem so_lload_n {k : Fin 4} (X : Cx B b L xs D aC p l R s m args meth c md d) (hd : decode (dB md) pc = .ok (.lload_n k, 1)) : SO P B b L xs D aC p l e R s m args below meth c md d c0 s0 Q pc (mo_lload (k : Nat) (pc + 1)) := by
  obtain ⟨hx, hb, hml, hown, hts, hlk, hst, hK, hG, hRm, htb, hnm⟩ := X
  intro lsl stl h r hf
  unfold mo_lload at hf
  split at hf
  · rename_i x h1
    obtain rfl := Option.some.inj hf
    exact so_pu fun H locs ls cells slots hH hS hl kk => lv_lload_n hx hb hd rfl (hl.at h1) kk
  · cases hf

theorem so_lload {k : Nat} (X : Cx B b L xs D aC p l R s m args meth c md d) (hd : decode (dB md) pc = .ok (.lload k, 2)) : SO P B b L xs D aC p l e R s m args below meth c md d c0 s0 Q pc (mo_lload k (pc + 2)) := by
  obtain ⟨hx, hb, hml, hown, hts, hlk, hst, hK, hG, hRm, htb, hnm⟩ := X
  intro lsl stl h r hf
  unfold mo_lload at hf
  split at hf
  · rename_i x h1
    obtain rfl := Option.some.inj hf
    exact so_pu fun H locs ls cells slots hH hS hl kk => lv_lload hx hb hd (hl.at h1) kk
  · cases hf

theorem so_aload_n {k : Fin 4} (X : Cx B b L xs D aC p l R s m args meth c md d) (hd : decode (dB md) pc = .ok (.aload_n k, 1)) : SO P B b L xs D aC p l e R s m args below meth c md d c0 s0 Q pc (mo_aload (k : Nat) (pc + 1)) := by
  obtain ⟨hx, hb, hml, hown, hts, hlk, hst, hK, hG, hRm, htb, hnm⟩ := X
  intro lsl stl h r hf
  unfold mo_aload at hf
  split at hf
  · rename_i x h1
    obtain rfl := Option.some.inj hf
    exact so_pu fun H locs ls cells slots hH hS hl kk => lv_aload_n hx hb hd rfl (hl.at h1) kk
  · cases hf

theorem so_aload {k : Nat} (X : Cx B b L xs D aC p l R s m args meth c md d) (hd : decode (dB md) pc = .ok (.aload k, 2)) : SO P B b L xs D aC p l e R s m args below meth c md d c0 s0 Q pc (mo_aload k (pc + 2)) := by
  obtain ⟨hx, hb, hml, hown, hts, hlk, hst, hK, hG, hRm, htb, hnm⟩ := X
  intro lsl stl h r hf
  unfold mo_aload at hf
  split at hf
  · rename_i x h1
    obtain rfl := Option.some.inj hf
    exact so_pu fun H locs ls cells slots hH hS hl kk => lv_aload hx hb hd (hl.at h1) kk
  · cases hf

theorem so_istore_n {k : Fin 4} (X : Cx B b L xs D aC p l R s m args meth c md d) (hd : decode (dB md) pc = .ok (.istore_n k, 1)) : SO P B b L xs D aC p l e R s m args below meth c md d c0 s0 Q pc (mo_istore (k : Nat) (pc + 1)) := by
  obtain ⟨hx, hb, hml, hown, hts, hlk, hst, hK, hG, hRm, htb, hnm⟩ := X
  intro lsl stl h r hf
  unfold mo_istore at hf
  split at hf
  · rename_i x r0
    obtain ⟨hc, hf⟩ := bq hf
    obtain rfl := Option.some.inj hf
    refine so_lo fun H locs ls cells slots hl kk => ?_
    obtain ⟨lv, h1, h2, h3⟩ := hl
    have hk : (k : Nat) < dL md := by rw [← h2]; exact Nat.ble_eq.mp hc
    exact lv_istore_n hx hb hd rfl h1 hk rfl (fun ls9 h9 => kk ls9 (lsR_st1 h2 hk h3 h9))
  · cases hf

theorem so_istore {k : Nat} (X : Cx B b L xs D aC p l R s m args meth c md d) (hd : decode (dB md) pc = .ok (.istore k, 2)) : SO P B b L xs D aC p l e R s m args below meth c md d c0 s0 Q pc (mo_istore k (pc + 2)) := by
  obtain ⟨hx, hb, hml, hown, hts, hlk, hst, hK, hG, hRm, htb, hnm⟩ := X
  intro lsl stl h r hf
  unfold mo_istore at hf
  split at hf
  · rename_i x r0
    obtain ⟨hc, hf⟩ := bq hf
    obtain rfl := Option.some.inj hf
    refine so_lo fun H locs ls cells slots hl kk => ?_
    obtain ⟨lv, h1, h2, h3⟩ := hl
    have hk : k < dL md := by rw [← h2]; exact Nat.ble_eq.mp hc
    exact lv_istore hx hb hd h1 hk rfl (fun ls9 h9 => kk ls9 (lsR_st1 h2 hk h3 h9))
  · cases hf

theorem so_astore_n {k : Fin 4} (X : Cx B b L xs D aC p l R s m args meth c md d) (hd : decode (dB md) pc = .ok (.astore_n k, 1)) : SO P B b L xs D aC p l e R s m args below meth c md d c0 s0 Q pc (mo_astore (k : Nat) (pc + 1)) := by
  obtain ⟨hx, hb, hml, hown, hts, hlk, hst, hK, hG, hRm, htb, hnm⟩ := X
  intro lsl stl h r hf
  unfold mo_astore at hf
  split at hf
  · rename_i x r0
    obtain ⟨hc, hf⟩ := bq hf
    obtain rfl := Option.some.inj hf
    refine so_lo fun H locs ls cells slots hl kk => ?_
    obtain ⟨lv, h1, h2, h3⟩ := hl
    have hk : (k : Nat) < dL md := by rw [← h2]; exact Nat.ble_eq.mp hc
    exact lv_astore_n hx hb hd rfl h1 hk rfl (fun ls9 h9 => kk ls9 (lsR_st1 h2 hk h3 h9))
  · cases hf

theorem so_astore {k : Nat} (X : Cx B b L xs D aC p l R s m args meth c md d) (hd : decode (dB md) pc = .ok (.astore k, 2)) : SO P B b L xs D aC p l e R s m args below meth c md d c0 s0 Q pc (mo_astore k (pc + 2)) := by
  obtain ⟨hx, hb, hml, hown, hts, hlk, hst, hK, hG, hRm, htb, hnm⟩ := X
  intro lsl stl h r hf
  unfold mo_astore at hf
  split at hf
  · rename_i x r0
    obtain ⟨hc, hf⟩ := bq hf
    obtain rfl := Option.some.inj hf
    refine so_lo fun H locs ls cells slots hl kk => ?_
    obtain ⟨lv, h1, h2, h3⟩ := hl
    have hk : k < dL md := by rw [← h2]; exact Nat.ble_eq.mp hc
    exact lv_astore hx hb hd h1 hk rfl (fun ls9 h9 => kk ls9 (lsR_st1 h2 hk h3 h9))
  · cases hf

theorem so_lstore_n {k : Fin 4} (X : Cx B b L xs D aC p l R s m args meth c md d) (hd : decode (dB md) pc = .ok (.lstore_n k, 1)) : SO P B b L xs D aC p l e R s m args below meth c md d c0 s0 Q pc (mo_lstore (k : Nat) (pc + 1)) := by
  obtain ⟨hx, hb, hml, hown, hts, hlk, hst, hK, hG, hRm, htb, hnm⟩ := X
  intro lsl stl h r hf
  unfold mo_lstore at hf
  split at hf
  · rename_i x r0
    obtain ⟨hc, hf⟩ := bq hf
    obtain rfl := Option.some.inj hf
    refine so_lo fun H locs ls cells slots hl kk => ?_
    obtain ⟨lv, h1, h2, h3⟩ := hl
    have hk : (k : Nat) + 1 < dL md := by rw [← h2]; exact Nat.ble_eq.mp hc
    exact lv_lstore_n hx hb hd rfl h1 hk rfl (fun ls9 h9 => kk ls9 (lsR_st2 h2 hk h3 h9))
  · cases hf

theorem so_lstore {k : Nat} (X : Cx B b L xs D aC p l R s m args meth c md d) (hd : decode (dB md) pc = .ok (.lstore k, 2)) : SO P B b L xs D aC p l e R s m args below meth c md d c0 s0 Q pc (mo_lstore k (pc + 2)) := by
  obtain ⟨hx, hb, hml, hown, hts, hlk, hst, hK, hG, hRm, htb, hnm⟩ := X
  intro lsl stl h r hf
  unfold mo_lstore at hf
  split at hf
  · rename_i x r0
    obtain ⟨hc, hf⟩ := bq hf
    obtain rfl := Option.some.inj hf
    refine so_lo fun H locs ls cells slots hl kk => ?_
    obtain ⟨lv, h1, h2, h3⟩ := hl
    have hk : k + 1 < dL md := by rw [← h2]; exact Nat.ble_eq.mp hc
    exact lv_lstore hx hb hd h1 hk rfl (fun ls9 h9 => kk ls9 (lsR_st2 h2 hk h3 h9))
  · cases hf

theorem so_iinc {k : Nat} {n : Int} (X : Cx B b L xs D aC p l R s m args meth c md d) (hd : decode (dB md) pc = .ok (.iinc k n, 3)) : SO P B b L xs D aC p l e R s m args below meth c md d c0 s0 Q pc (mo_iinc k n (pc + 3)) := by
  obtain ⟨hx, hb, hml, hown, hts, hlk, hst, hK, hG, hRm, htb, hnm⟩ := X
  intro lsl stl h r hf
  unfold mo_iinc at hf
  split at hf
  · rename_i x hx1
    obtain rfl := Option.some.inj hf
    refine so_lo fun H locs ls cells slots hl kk => ?_
    obtain ⟨lv, h1, h2, h3⟩ := hl
    have hk : k < dL md := by rw [← h2]; exact (List.getElem?_eq_some_iff.mp hx1).1
    obtain ⟨j, hj⟩ := List.getElem?_of_mem (h3 k _ hx1)
    exact lv_iinc hx hb hd h1 hj (Int32.ofInt_add x n).symm hk rfl (fun ls9 h9 => kk ls9 (lsR_st1 (v := vI (x + n)) h2 hk h3 h9))
  · cases hf

theorem so_iadd (X : Cx B b L xs D aC p l R s m args meth c md d) (hd : decode (dB md) pc = .ok (.iadd, 1)) : SO P B b L xs D aC p l e R s m args below meth c md d c0 s0 Q pc (mo_iadd (pc + 1)) := by
  obtain ⟨hx, hb, hml, hown, hts, hlk, hst, hK, hG, hRm, htb, hnm⟩ := X
  intro lsl stl h r hf
  unfold mo_iadd at hf
  split at hf
  · rename_i y x r0
    obtain rfl := Option.some.inj hf
    exact so_pu fun H locs ls cells slots hH hS hl kk => lv_iadd hx hb hd (by rw [← Int32.ofInt_add]; exact kk)
  · cases hf

theorem so_isub (X : Cx B b L xs D aC p l R s m args meth c md d) (hd : decode (dB md) pc = .ok (.isub, 1)) : SO P B b L xs D aC p l e R s m args below meth c md d c0 s0 Q pc (mo_isub (pc + 1)) := by
  obtain ⟨hx, hb, hml, hown, hts, hlk, hst, hK, hG, hRm, htb, hnm⟩ := X
  intro lsl stl h r hf
  unfold mo_isub at hf
  split at hf
  · rename_i y x r0
    obtain rfl := Option.some.inj hf
    exact so_pu fun H locs ls cells slots hH hS hl kk => lv_isub hx hb hd (by rw [← Int32.ofInt_sub]; exact kk)
  · cases hf

theorem so_imul (X : Cx B b L xs D aC p l R s m args meth c md d) (hd : decode (dB md) pc = .ok (.imul, 1)) : SO P B b L xs D aC p l e R s m args below meth c md d c0 s0 Q pc (mo_imul (pc + 1)) := by
  obtain ⟨hx, hb, hml, hown, hts, hlk, hst, hK, hG, hRm, htb, hnm⟩ := X
  intro lsl stl h r hf
  unfold mo_imul at hf
  split at hf
  · rename_i y x r0
    obtain rfl := Option.some.inj hf
    exact so_pu fun H locs ls cells slots hH hS hl kk => lv_imul hx hb hd (by rw [← Int32.ofInt_mul]; exact kk)
  · cases hf

theorem so_ladd (X : Cx B b L xs D aC p l R s m args meth c md d) (hd : decode (dB md) pc = .ok (.ladd, 1)) : SO P B b L xs D aC p l e R s m args below meth c md d c0 s0 Q pc (mo_ladd (pc + 1)) := by
  obtain ⟨hx, hb, hml, hown, hts, hlk, hst, hK, hG, hRm, htb, hnm⟩ := X
  intro lsl stl h r hf
  unfold mo_ladd at hf
  split at hf
  · rename_i y x r0
    obtain rfl := Option.some.inj hf
    exact so_pu fun H locs ls cells slots hH hS hl kk => lv_ladd hx hb hd (by rw [← Int64.ofInt_add]; exact kk)
  · cases hf

theorem so_lmul (X : Cx B b L xs D aC p l R s m args meth c md d) (hd : decode (dB md) pc = .ok (.lmul, 1)) : SO P B b L xs D aC p l e R s m args below meth c md d c0 s0 Q pc (mo_lmul (pc + 1)) := by
  obtain ⟨hx, hb, hml, hown, hts, hlk, hst, hK, hG, hRm, htb, hnm⟩ := X
  intro lsl stl h r hf
  unfold mo_lmul at hf
  split at hf
  · rename_i y x r0
    obtain rfl := Option.some.inj hf
    exact so_pu fun H locs ls cells slots hH hS hl kk => lv_lmul hx hb hd (by rw [← Int64.ofInt_mul]; exact kk)
  · cases hf

theorem so_idiv (X : Cx B b L xs D aC p l R s m args meth c md d) (hd : decode (dB md) pc = .ok (.idiv, 1)) : SO P B b L xs D aC p l e R s m args below meth c md d c0 s0 Q pc (mo_idiv (pc + 1)) := by
  obtain ⟨hx, hb, hml, hown, hts, hlk, hst, hK, hG, hRm, htb, hnm⟩ := X
  intro lsl stl h r hf
  unfold mo_idiv at hf
  split at hf
  · rename_i y x r0
    obtain ⟨hc, hf⟩ := bq hf
    obtain ⟨hc1, hc⟩ := b2 hc
    obtain ⟨hc2, hc3⟩ := b2 hc
    have hy : 0 < y := of_decide_eq_true hc3
    have hne : ¬ Int32.ofInt y = 0 := fun z => by
      have z2 := congrArg Int32.toInt z
      rw [i32 hc2, Int32.toInt_zero] at z2
      omega
    obtain rfl := Option.some.inj hf
    exact so_pu fun H locs ls cells slots hH hS hl kk => lv_idiv hx hb hd hne (by rw [m_div hc1 hc2 hy]; exact kk)
  · cases hf

theorem so_irem (X : Cx B b L xs D aC p l R s m args meth c md d) (hd : decode (dB md) pc = .ok (.irem, 1)) : SO P B b L xs D aC p l e R s m args below meth c md d c0 s0 Q pc (mo_irem (pc + 1)) := by
  obtain ⟨hx, hb, hml, hown, hts, hlk, hst, hK, hG, hRm, htb, hnm⟩ := X
  intro lsl stl h r hf
  unfold mo_irem at hf
  split at hf
  · rename_i y x r0
    obtain ⟨hc, hf⟩ := bq hf
    obtain ⟨hc1, hc⟩ := b2 hc
    obtain ⟨hc2, hc3⟩ := b2 hc
    have hy : 0 < y := of_decide_eq_true hc3
    have hne : ¬ Int32.ofInt y = 0 := fun z => by
      have z2 := congrArg Int32.toInt z
      rw [i32 hc2, Int32.toInt_zero] at z2
      omega
    obtain rfl := Option.some.inj hf
    exact so_pu fun H locs ls cells slots hH hS hl kk => lv_irem hx hb hd hne (by rw [m_rem hc1 hc2 hy]; exact kk)
  · cases hf

theorem so_ldiv (X : Cx B b L xs D aC p l R s m args meth c md d) (hd : decode (dB md) pc = .ok (.ldiv, 1)) : SO P B b L xs D aC p l e R s m args below meth c md d c0 s0 Q pc (mo_ldiv (pc + 1)) := by
  obtain ⟨hx, hb, hml, hown, hts, hlk, hst, hK, hG, hRm, htb, hnm⟩ := X
  intro lsl stl h r hf
  unfold mo_ldiv at hf
  split at hf
  · rename_i y x r0
    obtain ⟨hc, hf⟩ := bq hf
    obtain ⟨hc1, hc⟩ := b2 hc
    obtain ⟨hc2, hc3⟩ := b2 hc
    have hy : 0 < y := of_decide_eq_true hc3
    have hne : ¬ Int64.ofInt y = 0 := fun z => by
      have z2 := congrArg Int64.toInt z
      rw [i64 hc2, Int64.toInt_zero] at z2
      omega
    obtain rfl := Option.some.inj hf
    exact so_pu fun H locs ls cells slots hH hS hl kk => lv_ldiv hx hb hd hne (by rw [m_ldiv hc1 hc2 hy]; exact kk)
  · cases hf

theorem so_lcmp (X : Cx B b L xs D aC p l R s m args meth c md d) (hd : decode (dB md) pc = .ok (.lcmp, 1)) : SO P B b L xs D aC p l e R s m args below meth c md d c0 s0 Q pc (mo_lcmp (pc + 1)) := by
  obtain ⟨hx, hb, hml, hown, hts, hlk, hst, hK, hG, hRm, htb, hnm⟩ := X
  intro lsl stl h r hf
  unfold mo_lcmp at hf
  split at hf
  · rename_i y x r0
    obtain ⟨hc, hf⟩ := bq hf
    obtain ⟨hc1, hc2⟩ := b2 hc
    obtain rfl := Option.some.inj hf
    exact so_pu fun H locs ls cells slots hH hS hl kk => W.lcmp hx hb hd (by rw [m_cmp hc1 hc2]; exact kk)
  · cases hf

theorem so_ior (X : Cx B b L xs D aC p l R s m args meth c md d) (hd : decode (dB md) pc = .ok (.ior, 1)) : SO P B b L xs D aC p l e R s m args below meth c md d c0 s0 Q pc (mo_ior (pc + 1)) := by
  obtain ⟨hx, hb, hml, hown, hts, hlk, hst, hK, hG, hRm, htb, hnm⟩ := X
  intro lsl stl h r hf
  unfold mo_ior at hf
  split at hf
  · rename_i y x r0
    obtain ⟨hc, hf⟩ := bq hf
    obtain ⟨hc1, hc⟩ := b2 hc
    obtain ⟨hc2, hc⟩ := b2 hc
    obtain ⟨hc3, hc4⟩ := b2 hc
    obtain rfl := Option.some.inj hf
    exact so_pu fun H locs ls cells slots hH hS hl kk => lv_ior hx hb hd (by rw [m_or hc1 hc2 (of_decide_eq_true hc3) (of_decide_eq_true hc4)]; exact kk)
  · cases hf

theorem so_ishl (X : Cx B b L xs D aC p l R s m args meth c md d) (hd : decode (dB md) pc = .ok (.ishl, 1)) : SO P B b L xs D aC p l e R s m args below meth c md d c0 s0 Q pc (mo_ishl (pc + 1)) := by
  obtain ⟨hx, hb, hml, hown, hts, hlk, hst, hK, hG, hRm, htb, hnm⟩ := X
  intro lsl stl h r hf
  unfold mo_ishl at hf
  split at hf
  · rename_i y x r0
    obtain ⟨hc, hf⟩ := bq hf
    obtain ⟨hc1, hc2⟩ := b2 hc
    obtain rfl := Option.some.inj hf
    exact so_pu fun H locs ls cells slots hH hS hl kk => lv_ishl hx hb hd (by rw [m_shl (of_decide_eq_true hc1) (of_decide_eq_true hc2)]; exact kk)
  · cases hf

theorem so_ishr (X : Cx B b L xs D aC p l R s m args meth c md d) (hd : decode (dB md) pc = .ok (.ishr, 1)) : SO P B b L xs D aC p l e R s m args below meth c md d c0 s0 Q pc (mo_ishr (pc + 1)) := by
  obtain ⟨hx, hb, hml, hown, hts, hlk, hst, hK, hG, hRm, htb, hnm⟩ := X
  intro lsl stl h r hf
  unfold mo_ishr at hf
  split at hf
  · rename_i y x r0
    obtain ⟨hc, hf⟩ := bq hf
    obtain ⟨hc1, hc⟩ := b2 hc
    obtain ⟨hc2, hc3⟩ := b2 hc
    obtain rfl := Option.some.inj hf
    exact so_pu fun H locs ls cells slots hH hS hl kk => lv_ishr hx hb hd (by rw [m_shr hc1 (of_decide_eq_true hc2) (of_decide_eq_true hc3)]; exact kk)
  · cases hf

theorem so_iand (X : Cx B b L xs D aC p l R s m args meth c md d) (hd : decode (dB md) pc = .ok (.iand, 1)) : SO P B b L xs D aC p l e R s m args below meth c md d c0 s0 Q pc (mo_iand (pc + 1)) := by
  obtain ⟨hx, hb, hml, hown, hts, hlk, hst, hK, hG, hRm, htb, hnm⟩ := X
  intro lsl stl h r hf
  unfold mo_iand at hf
  split at hf
  · rename_i y x r0
    obtain ⟨hc, hf⟩ := bq hf
    obtain ⟨hc1, hc⟩ := b2 hc
    obtain ⟨hc2, hc3⟩ := b2 hc
    by_cases q : 0 ≤ x
    · rw [decide_eq_true q] at hf
      obtain rfl := Option.some.inj hf
      exact so_pu fun H locs ls cells slots hH hS hl kk => lv_iand hx hb hd (by rw [m_and hc1 hc2 (of_decide_eq_true hc3) q]; exact kk)
    · rw [decide_eq_false q] at hf
      obtain ⟨h15, hf⟩ := bq hf
      obtain rfl := Option.some.inj hf
      have h15 := of_decide_eq_true h15
      subst h15
      exact so_pu fun H locs ls cells slots hH hS hl kk => lv_iand hx hb hd (by rw [m_15]; exact kk)
  · cases hf

theorem so_i2l (X : Cx B b L xs D aC p l R s m args meth c md d) (hd : decode (dB md) pc = .ok (.i2l, 1)) : SO P B b L xs D aC p l e R s m args below meth c md d c0 s0 Q pc (mo_i2l (pc + 1)) := by
  obtain ⟨hx, hb, hml, hown, hts, hlk, hst, hK, hG, hRm, htb, hnm⟩ := X
  intro lsl stl h r hf
  unfold mo_i2l at hf
  split at hf
  · rename_i x r0
    obtain ⟨hc, hf⟩ := bq hf
    obtain rfl := Option.some.inj hf
    exact so_pu fun H locs ls cells slots hH hS hl kk => lv_i2l hx hb hd (m_i2l hc) kk
  · cases hf

theorem so_l2i (X : Cx B b L xs D aC p l R s m args meth c md d) (hd : decode (dB md) pc = .ok (.l2i, 1)) : SO P B b L xs D aC p l e R s m args below meth c md d c0 s0 Q pc (mo_l2i (pc + 1)) := by
  obtain ⟨hx, hb, hml, hown, hts, hlk, hst, hK, hG, hRm, htb, hnm⟩ := X
  intro lsl stl h r hf
  unfold mo_l2i at hf
  split at hf
  · rename_i x r0
    obtain rfl := Option.some.inj hf
    exact so_pu fun H locs ls cells slots hH hS hl kk => lv_l2i hx hb hd (m_l2i x) kk
  · cases hf

theorem so_i2c (X : Cx B b L xs D aC p l R s m args meth c md d) (hd : decode (dB md) pc = .ok (.i2c, 1)) : SO P B b L xs D aC p l e R s m args below meth c md d c0 s0 Q pc (mo_i2c (pc + 1)) := by
  obtain ⟨hx, hb, hml, hown, hts, hlk, hst, hK, hG, hRm, htb, hnm⟩ := X
  intro lsl stl h r hf
  unfold mo_i2c at hf
  split at hf
  · rename_i x r0
    obtain rfl := Option.some.inj hf
    exact so_pu fun H locs ls cells slots hH hS hl kk => lv_i2c hx hb hd (m_i2c x) kk
  · cases hf

theorem so_dup (X : Cx B b L xs D aC p l R s m args meth c md d) (hd : decode (dB md) pc = .ok (.dup, 1)) : SO P B b L xs D aC p l e R s m args below meth c md d c0 s0 Q pc (mo_dup (pc + 1)) := by
  obtain ⟨hx, hb, hml, hown, hts, hlk, hst, hK, hG, hRm, htb, hnm⟩ := X
  intro lsl stl h r hf
  unfold mo_dup at hf
  split at hf
  · rename_i v r0
    obtain ⟨hc, hf⟩ := bq hf
    obtain rfl := Option.some.inj hf
    exact so_pu fun H locs ls cells slots hH hS hl kk => lv_dup hx hb hd (by rw [cat_eV]; exact Nat.eq_of_beq_eq_true hc) kk
  · cases hf

theorem so_pop (X : Cx B b L xs D aC p l R s m args meth c md d) (hd : decode (dB md) pc = .ok (.pop, 1)) : SO P B b L xs D aC p l e R s m args below meth c md d c0 s0 Q pc (mo_pop (pc + 1)) := by
  obtain ⟨hx, hb, hml, hown, hts, hlk, hst, hK, hG, hRm, htb, hnm⟩ := X
  intro lsl stl h r hf
  unfold mo_pop at hf
  split at hf
  · rename_i v r0
    obtain ⟨hc, hf⟩ := bq hf
    obtain rfl := Option.some.inj hf
    exact so_pu fun H locs ls cells slots hH hS hl kk => lv_pop hx hb hd (by rw [cat_eV]; exact Nat.eq_of_beq_eq_true hc) kk
  · cases hf

theorem so_dup2 (X : Cx B b L xs D aC p l R s m args meth c md d) (hd : decode (dB md) pc = .ok (.dup2, 1)) : SO P B b L xs D aC p l e R s m args below meth c md d c0 s0 Q pc (mo_dup2 (pc + 1)) := by
  obtain ⟨hx, hb, hml, hown, hts, hlk, hst, hK, hG, hRm, htb, hnm⟩ := X
  intro lsl stl h r hf
  unfold mo_dup2 at hf
  split at hf
  · rename_i v w r0
    obtain ⟨hc, hf⟩ := bq hf
    obtain ⟨hc1, hc2⟩ := b2 hc
    obtain rfl := Option.some.inj hf
    exact so_pu fun H locs ls cells slots hH hS hl kk => lv_dup2_11 hx hb hd (by rw [cat_eV]; exact Nat.eq_of_beq_eq_true hc1) (by rw [cat_eV]; exact Nat.eq_of_beq_eq_true hc2) kk
  · cases hf

theorem so_dup2l (X : Cx B b L xs D aC p l R s m args meth c md d) (hd : decode (dB md) pc = .ok (.dup2, 1)) : SO P B b L xs D aC p l e R s m args below meth c md d c0 s0 Q pc (mo_dup2l (pc + 1)) := by
  obtain ⟨hx, hb, hml, hown, hts, hlk, hst, hK, hG, hRm, htb, hnm⟩ := X
  intro lsl stl h r hf
  unfold mo_dup2l at hf
  split at hf
  · rename_i x r0
    obtain rfl := Option.some.inj hf
    exact so_pu fun H locs ls cells slots hH hS hl kk => lv_dup2_2 hx hb hd rfl kk
  · cases hf

theorem so_iaddw (X : Cx B b L xs D aC p l R s m args meth c md d) (hd : decode (dB md) pc = .ok (.iadd, 1)) : SO P B b L xs D aC p l e R s m args below meth c md d c0 s0 Q pc (mo_iaddw (pc + 1)) := by
  obtain ⟨hx, hb, hml, hown, hts, hlk, hst, hK, hG, hRm, htb, hnm⟩ := X
  intro lsl stl h r hf
  unfold mo_iaddw at hf
  split at hf
  · rename_i y x r0
    obtain rfl := Option.some.inj hf
    exact so_pu fun H locs ls cells slots hH hS hl kk => lv_iadd hx hb hd (by rw [← Int32.ofInt_add, ← m_iw]; exact kk)
  · cases hf

theorem so_iandm {y0 M : Int} (X : Cx B b L xs D aC p l R s m args meth c md d) (hm : ∀ x : Int, Int32.ofInt x &&& Int32.ofInt y0 = Int32.ofInt (x % M)) (hd : decode (dB md) pc = .ok (.iand, 1)) : SO P B b L xs D aC p l e R s m args below meth c md d c0 s0 Q pc (mo_iandm y0 M (pc + 1)) := by
  obtain ⟨hx, hb, hml, hown, hts, hlk, hst, hK, hG, hRm, htb, hnm⟩ := X
  intro lsl stl h r hf
  unfold mo_iandm at hf
  split at hf
  · rename_i y x r0
    obtain ⟨hc, hf⟩ := bq hf
    have hc : y = y0 := of_decide_eq_true hc
    obtain rfl := Option.some.inj hf
    exact so_pu fun H locs ls cells slots hH hS hl kk => lv_iand hx hb hd (by rw [hc, hm]; exact kk)
  · cases hf

theorem so_lshl (X : Cx B b L xs D aC p l R s m args meth c md d) (hd : decode (dB md) pc = .ok (.lshl, 1)) : SO P B b L xs D aC p l e R s m args below meth c md d c0 s0 Q pc (mo_lshl (pc + 1)) := by
  obtain ⟨hx, hb, hml, hown, hts, hlk, hst, hK, hG, hRm, htb, hnm⟩ := X
  intro lsl stl h r hf
  unfold mo_lshl at hf
  split at hf
  · rename_i y x r0
    obtain ⟨hc, hf⟩ := bq hf
    obtain ⟨hc1, hc2⟩ := b2 hc
    obtain rfl := Option.some.inj hf
    exact so_pu fun H locs ls cells slots hH hS hl kk => lv_lshl hx hb hd (m_lshl (of_decide_eq_true hc1) (of_decide_eq_true hc2)) kk
  · cases hf

theorem so_lshr (X : Cx B b L xs D aC p l R s m args meth c md d) (hd : decode (dB md) pc = .ok (.lshr, 1)) : SO P B b L xs D aC p l e R s m args below meth c md d c0 s0 Q pc (mo_lshr (pc + 1)) := by
  obtain ⟨hx, hb, hml, hown, hts, hlk, hst, hK, hG, hRm, htb, hnm⟩ := X
  intro lsl stl h r hf
  unfold mo_lshr at hf
  split at hf
  · rename_i y x r0
    obtain ⟨hc, hf⟩ := bq hf
    obtain ⟨hc1, hc⟩ := b2 hc
    obtain ⟨hc2, hc3⟩ := b2 hc
    obtain rfl := Option.some.inj hf
    exact so_pu fun H locs ls cells slots hH hS hl kk => lv_lshr hx hb hd (m_lshr hc1 (of_decide_eq_true hc2) (of_decide_eq_true hc3)) kk
  · cases hf

theorem so_icmp_eq {off : Int} {tgt : Nat} (X : Cx B b L xs D aC p l R s m args meth c md d) (hd : decode (dB md) pc = .ok (.if_icmp .eq off, 3)) (ht : (pc : Int) + off = (tgt : Int)) : SO P B b L xs D aC p l e R s m args below meth c md d c0 s0 Q pc (mo_icmp 0 tgt (pc + 3)) := by
  obtain ⟨hx, hb, hml, hown, hts, hlk, hst, hK, hG, hRm, htb, hnm⟩ := X
  intro lsl stl h r hf
  unfold mo_icmp at hf
  split at hf
  · rename_i y x r0
    obtain ⟨hc, hf⟩ := bq hf
    obtain ⟨hc1, hc2⟩ := b2 hc
    cases q : mrel 0 x y
    · rw [q] at hf
      obtain rfl := Option.some.inj hf
      exact so_pu fun H locs ls cells slots hH hS hl kk => lv_icmp_eq hx hb hd ht (fun z => absurd ((m_eq hc1 hc2).mp z) (by rw [q]; exact Bool.false_ne_true)) (fun _ => kk)
    · rw [q] at hf
      obtain rfl := Option.some.inj hf
      exact so_pu fun H locs ls cells slots hH hS hl kk => lv_icmp_eq hx hb hd ht (fun _ => kk) (fun z => absurd ((m_eq hc1 hc2).mpr q) (z))
  · cases hf

theorem so_if_eq {off : Int} {tgt : Nat} (X : Cx B b L xs D aC p l R s m args meth c md d) (hd : decode (dB md) pc = .ok (.ifCond .eq off, 3)) (ht : (pc : Int) + off = (tgt : Int)) : SO P B b L xs D aC p l e R s m args below meth c md d c0 s0 Q pc (mo_if 0 tgt (pc + 3)) := by
  obtain ⟨hx, hb, hml, hown, hts, hlk, hst, hK, hG, hRm, htb, hnm⟩ := X
  intro lsl stl h r hf
  unfold mo_if at hf
  split at hf
  · rename_i x r0
    obtain ⟨hc, hf⟩ := bq hf
    cases q : mrel 0 x 0
    · rw [q] at hf
      obtain rfl := Option.some.inj hf
      exact so_pu fun H locs ls cells slots hH hS hl kk => lv_if_eq hx hb hd ht (fun z => absurd ((m_eq hc inI_0).mp z) (by rw [q]; exact Bool.false_ne_true)) (fun _ => kk)
    · rw [q] at hf
      obtain rfl := Option.some.inj hf
      exact so_pu fun H locs ls cells slots hH hS hl kk => lv_if_eq hx hb hd ht (fun _ => kk) (fun z => absurd ((m_eq hc inI_0).mpr q) (z))
  · cases hf

theorem so_icmp_ne {off : Int} {tgt : Nat} (X : Cx B b L xs D aC p l R s m args meth c md d) (hd : decode (dB md) pc = .ok (.if_icmp .ne off, 3)) (ht : (pc : Int) + off = (tgt : Int)) : SO P B b L xs D aC p l e R s m args below meth c md d c0 s0 Q pc (mo_icmp 1 tgt (pc + 3)) := by
  obtain ⟨hx, hb, hml, hown, hts, hlk, hst, hK, hG, hRm, htb, hnm⟩ := X
  intro lsl stl h r hf
  unfold mo_icmp at hf
  split at hf
  · rename_i y x r0
    obtain ⟨hc, hf⟩ := bq hf
    obtain ⟨hc1, hc2⟩ := b2 hc
    cases q : mrel 1 x y
    · rw [q] at hf
      obtain rfl := Option.some.inj hf
      exact so_pu fun H locs ls cells slots hH hS hl kk => lv_icmp_ne hx hb hd ht (fun z => absurd ((m_ne hc1 hc2).mp z) (by rw [q]; exact Bool.false_ne_true)) (fun _ => kk)
    · rw [q] at hf
      obtain rfl := Option.some.inj hf
      exact so_pu fun H locs ls cells slots hH hS hl kk => lv_icmp_ne hx hb hd ht (fun _ => kk) (fun z => absurd ((m_ne hc1 hc2).mpr q) (fun w => w z))
  · cases hf

theorem so_if_ne {off : Int} {tgt : Nat} (X : Cx B b L xs D aC p l R s m args meth c md d) (hd : decode (dB md) pc = .ok (.ifCond .ne off, 3)) (ht : (pc : Int) + off = (tgt : Int)) : SO P B b L xs D aC p l e R s m args below meth c md d c0 s0 Q pc (mo_if 1 tgt (pc + 3)) := by
  obtain ⟨hx, hb, hml, hown, hts, hlk, hst, hK, hG, hRm, htb, hnm⟩ := X
  intro lsl stl h r hf
  unfold mo_if at hf
  split at hf
  · rename_i x r0
    obtain ⟨hc, hf⟩ := bq hf
    cases q : mrel 1 x 0
    · rw [q] at hf
      obtain rfl := Option.some.inj hf
      exact so_pu fun H locs ls cells slots hH hS hl kk => lv_if_ne hx hb hd ht (fun z => absurd ((m_ne hc inI_0).mp z) (by rw [q]; exact Bool.false_ne_true)) (fun _ => kk)
    · rw [q] at hf
      obtain rfl := Option.some.inj hf
      exact so_pu fun H locs ls cells slots hH hS hl kk => lv_if_ne hx hb hd ht (fun _ => kk) (fun z => absurd ((m_ne hc inI_0).mpr q) (fun w => w z))
  · cases hf

theorem so_icmp_lt {off : Int} {tgt : Nat} (X : Cx B b L xs D aC p l R s m args meth c md d) (hd : decode (dB md) pc = .ok (.if_icmp .lt off, 3)) (ht : (pc : Int) + off = (tgt : Int)) : SO P B b L xs D aC p l e R s m args below meth c md d c0 s0 Q pc (mo_icmp 2 tgt (pc + 3)) := by
  obtain ⟨hx, hb, hml, hown, hts, hlk, hst, hK, hG, hRm, htb, hnm⟩ := X
  intro lsl stl h r hf
  unfold mo_icmp at hf
  split at hf
  · rename_i y x r0
    obtain ⟨hc, hf⟩ := bq hf
    obtain ⟨hc1, hc2⟩ := b2 hc
    cases q : mrel 2 x y
    · rw [q] at hf
      obtain rfl := Option.some.inj hf
      exact so_pu fun H locs ls cells slots hH hS hl kk => lv_icmp_lt hx hb hd ht (fun z => absurd ((m_lt hc1 hc2).mp z) (by rw [q]; exact Bool.false_ne_true)) (fun _ => kk)
    · rw [q] at hf
      obtain rfl := Option.some.inj hf
      exact so_pu fun H locs ls cells slots hH hS hl kk => lv_icmp_lt hx hb hd ht (fun _ => kk) (fun z => absurd ((m_lt hc1 hc2).mpr q) (z))
  · cases hf

theorem so_if_lt {off : Int} {tgt : Nat} (X : Cx B b L xs D aC p l R s m args meth c md d) (hd : decode (dB md) pc = .ok (.ifCond .lt off, 3)) (ht : (pc : Int) + off = (tgt : Int)) : SO P B b L xs D aC p l e R s m args below meth c md d c0 s0 Q pc (mo_if 2 tgt (pc + 3)) := by
  obtain ⟨hx, hb, hml, hown, hts, hlk, hst, hK, hG, hRm, htb, hnm⟩ := X
  intro lsl stl h r hf
  unfold mo_if at hf
  split at hf
  · rename_i x r0
    obtain ⟨hc, hf⟩ := bq hf
    cases q : mrel 2 x 0
    · rw [q] at hf
      obtain rfl := Option.some.inj hf
      exact so_pu fun H locs ls cells slots hH hS hl kk => lv_if_lt hx hb hd ht (fun z => absurd ((m_lt hc inI_0).mp z) (by rw [q]; exact Bool.false_ne_true)) (fun _ => kk)
    · rw [q] at hf
      obtain rfl := Option.some.inj hf
      exact so_pu fun H locs ls cells slots hH hS hl kk => lv_if_lt hx hb hd ht (fun _ => kk) (fun z => absurd ((m_lt hc inI_0).mpr q) (z))
  · cases hf

theorem so_icmp_ge {off : Int} {tgt : Nat} (X : Cx B b L xs D aC p l R s m args meth c md d) (hd : decode (dB md) pc = .ok (.if_icmp .ge off, 3)) (ht : (pc : Int) + off = (tgt : Int)) : SO P B b L xs D aC p l e R s m args below meth c md d c0 s0 Q pc (mo_icmp 3 tgt (pc + 3)) := by
  obtain ⟨hx, hb, hml, hown, hts, hlk, hst, hK, hG, hRm, htb, hnm⟩ := X
  intro lsl stl h r hf
  unfold mo_icmp at hf
  split at hf
  · rename_i y x r0
    obtain ⟨hc, hf⟩ := bq hf
    obtain ⟨hc1, hc2⟩ := b2 hc
    cases q : mrel 3 x y
    · rw [q] at hf
      obtain rfl := Option.some.inj hf
      exact so_pu fun H locs ls cells slots hH hS hl kk => lv_icmp_ge hx hb hd ht (fun z => absurd ((m_ge hc1 hc2).mp z) (by rw [q]; exact Bool.false_ne_true)) (fun _ => kk)
    · rw [q] at hf
      obtain rfl := Option.some.inj hf
      exact so_pu fun H locs ls cells slots hH hS hl kk => lv_icmp_ge hx hb hd ht (fun _ => kk) (fun z => absurd ((m_ge hc1 hc2).mpr q) (z))
  · cases hf

theorem so_if_ge {off : Int} {tgt : Nat} (X : Cx B b L xs D aC p l R s m args meth c md d) (hd : decode (dB md) pc = .ok (.ifCond .ge off, 3)) (ht : (pc : Int) + off = (tgt : Int)) : SO P B b L xs D aC p l e R s m args below meth c md d c0 s0 Q pc (mo_if 3 tgt (pc + 3)) := by
  obtain ⟨hx, hb, hml, hown, hts, hlk, hst, hK, hG, hRm, htb, hnm⟩ := X
  intro lsl stl h r hf
  unfold mo_if at hf
  split at hf
  · rename_i x r0
    obtain ⟨hc, hf⟩ := bq hf
    cases q : mrel 3 x 0
    · rw [q] at hf
      obtain rfl := Option.some.inj hf
      exact so_pu fun H locs ls cells slots hH hS hl kk => lv_if_ge hx hb hd ht (fun z => absurd ((m_ge hc inI_0).mp z) (by rw [q]; exact Bool.false_ne_true)) (fun _ => kk)
    · rw [q] at hf
      obtain rfl := Option.some.inj hf
      exact so_pu fun H locs ls cells slots hH hS hl kk => lv_if_ge hx hb hd ht (fun _ => kk) (fun z => absurd ((m_ge hc inI_0).mpr q) (z))
  · cases hf

theorem so_icmp_gt {off : Int} {tgt : Nat} (X : Cx B b L xs D aC p l R s m args meth c md d) (hd : decode (dB md) pc = .ok (.if_icmp .gt off, 3)) (ht : (pc : Int) + off = (tgt : Int)) : SO P B b L xs D aC p l e R s m args below meth c md d c0 s0 Q pc (mo_icmp 4 tgt (pc + 3)) := by
  obtain ⟨hx, hb, hml, hown, hts, hlk, hst, hK, hG, hRm, htb, hnm⟩ := X
  intro lsl stl h r hf
  unfold mo_icmp at hf
  split at hf
  · rename_i y x r0
    obtain ⟨hc, hf⟩ := bq hf
    obtain ⟨hc1, hc2⟩ := b2 hc
    cases q : mrel 4 x y
    · rw [q] at hf
      obtain rfl := Option.some.inj hf
      exact so_pu fun H locs ls cells slots hH hS hl kk => lv_icmp_gt hx hb hd ht (fun z => absurd ((m_gt hc1 hc2).mp z) (by rw [q]; exact Bool.false_ne_true)) (fun _ => kk)
    · rw [q] at hf
      obtain rfl := Option.some.inj hf
      exact so_pu fun H locs ls cells slots hH hS hl kk => lv_icmp_gt hx hb hd ht (fun _ => kk) (fun z => absurd ((m_gt hc1 hc2).mpr q) (z))
  · cases hf

theorem so_if_gt {off : Int} {tgt : Nat} (X : Cx B b L xs D aC p l R s m args meth c md d) (hd : decode (dB md) pc = .ok (.ifCond .gt off, 3)) (ht : (pc : Int) + off = (tgt : Int)) : SO P B b L xs D aC p l e R s m args below meth c md d c0 s0 Q pc (mo_if 4 tgt (pc + 3)) := by
  obtain ⟨hx, hb, hml, hown, hts, hlk, hst, hK, hG, hRm, htb, hnm⟩ := X
  intro lsl stl h r hf
  unfold mo_if at hf
  split at hf
  · rename_i x r0
    obtain ⟨hc, hf⟩ := bq hf
    cases q : mrel 4 x 0
    · rw [q] at hf
      obtain rfl := Option.some.inj hf
      exact so_pu fun H locs ls cells slots hH hS hl kk => lv_if_gt hx hb hd ht (fun z => absurd ((m_gt hc inI_0).mp z) (by rw [q]; exact Bool.false_ne_true)) (fun _ => kk)
    · rw [q] at hf
      obtain rfl := Option.some.inj hf
      exact so_pu fun H locs ls cells slots hH hS hl kk => lv_if_gt hx hb hd ht (fun _ => kk) (fun z => absurd ((m_gt hc inI_0).mpr q) (z))
  · cases hf

theorem so_icmp_le {off : Int} {tgt : Nat} (X : Cx B b L xs D aC p l R s m args meth c md d) (hd : decode (dB md) pc = .ok (.if_icmp .le off, 3)) (ht : (pc : Int) + off = (tgt : Int)) : SO P B b L xs D aC p l e R s m args below meth c md d c0 s0 Q pc (mo_icmp 5 tgt (pc + 3)) := by
  obtain ⟨hx, hb, hml, hown, hts, hlk, hst, hK, hG, hRm, htb, hnm⟩ := X
  intro lsl stl h r hf
  unfold mo_icmp at hf
  split at hf
  · rename_i y x r0
    obtain ⟨hc, hf⟩ := bq hf
    obtain ⟨hc1, hc2⟩ := b2 hc
    cases q : mrel 5 x y
    · rw [q] at hf
      obtain rfl := Option.some.inj hf
      exact so_pu fun H locs ls cells slots hH hS hl kk => lv_icmp_le hx hb hd ht (fun z => absurd ((m_le hc1 hc2).mp z) (by rw [q]; exact Bool.false_ne_true)) (fun _ => kk)
    · rw [q] at hf
      obtain rfl := Option.some.inj hf
      exact so_pu fun H locs ls cells slots hH hS hl kk => lv_icmp_le hx hb hd ht (fun _ => kk) (fun z => absurd ((m_le hc1 hc2).mpr q) (z))
  · cases hf

theorem so_if_le {off : Int} {tgt : Nat} (X : Cx B b L xs D aC p l R s m args meth c md d) (hd : decode (dB md) pc = .ok (.ifCond .le off, 3)) (ht : (pc : Int) + off = (tgt : Int)) : SO P B b L xs D aC p l e R s m args below meth c md d c0 s0 Q pc (mo_if 5 tgt (pc + 3)) := by
  obtain ⟨hx, hb, hml, hown, hts, hlk, hst, hK, hG, hRm, htb, hnm⟩ := X
  intro lsl stl h r hf
  unfold mo_if at hf
  split at hf
  · rename_i x r0
    obtain ⟨hc, hf⟩ := bq hf
    cases q : mrel 5 x 0
    · rw [q] at hf
      obtain rfl := Option.some.inj hf
      exact so_pu fun H locs ls cells slots hH hS hl kk => lv_if_le hx hb hd ht (fun z => absurd ((m_le hc inI_0).mp z) (by rw [q]; exact Bool.false_ne_true)) (fun _ => kk)
    · rw [q] at hf
      obtain rfl := Option.some.inj hf
      exact so_pu fun H locs ls cells slots hH hS hl kk => lv_if_le hx hb hd ht (fun _ => kk) (fun z => absurd ((m_le hc inI_0).mpr q) (z))
  · cases hf

theorem so_goto {off : Int} {tgt : Nat} (X : Cx B b L xs D aC p l R s m args meth c md d) (hd : decode (dB md) pc = .ok (.goto off, 3)) (ht : (pc : Int) + off = (tgt : Int)) : SO P B b L xs D aC p l e R s m args below meth c md d c0 s0 Q pc (mo_goto tgt) := by
  obtain ⟨hx, hb, hml, hown, hts, hlk, hst, hK, hG, hRm, htb, hnm⟩ := X
  intro lsl stl h r hf
  obtain rfl := Option.some.inj hf
  exact so_pu fun H locs ls cells slots hH hS hl kk => lv_goto hx hb hd ht kk

theorem so_tsw {dflt hi : Int} {offs : Array Int} {len : Nat} {tgts : List Nat} (X : Cx B b L xs D aC p l R s m args meth c md d) (hd : decode (dB md) pc = .ok (.tableswitch dflt 0 hi offs, len)) (hlen : (tgts.length : Int) = hi + 1) (ho : offs = (tgts.map (fun (t : Nat) => (t : Int) - (pc : Int))).toArray) : SO P B b L xs D aC p l e R s m args below meth c md d c0 s0 Q pc (mo_tsw tgts) := by
  obtain ⟨hx, hb, hml, hown, hts, hlk, hst, hK, hG, hRm, htb, hnm⟩ := X
  intro lsl stl h r hf
  unfold mo_tsw at hf
  split at hf
  · rename_i x r0
    obtain ⟨hc, hf⟩ := bq hf
    obtain ⟨hc1, hc2⟩ := b2 hc
    have h0 : 0 ≤ x := of_decide_eq_true hc2
    split at hf
    · rename_i t0 ht0
      obtain rfl := Option.some.inj hf
      have hlt : x.toNat < tgts.length := (List.getElem?_eq_some_iff.mp ht0).1
      refine so_pu fun H locs ls cells slots hH hS hl kk => lv_tableIn (tgt := t0) (off := (t0 : Int) - (pc : Int)) hx hb hd (by rw [i32 hc1]; omega) (by rw [i32 hc1]; omega) ?_ (by omega) kk
      rw [i32 hc1, ho, Int.sub_zero]
      simp [ht0]
    · cases hf
  · cases hf

end SOB
