/-! ===== the small machine: numbers are integers; an address is a number from 1 on, 0 is the script; a heap is what kind each cell is, where its references go, and the numbers that it holds ===== -/
abbrev mMV : Type := Int ⊕ (Int ⊕ Option Nat)
abbrev vI (x : Int) : mMV := Sum.inl x
abbrev vJ (x : Int) : mMV := Sum.inr (Sum.inl x)
abbrev vR (r : Option Nat) : mMV := Sum.inr (Sum.inr r)
abbrev mLS : Type := List (Option mMV)
abbrev mST : Type := List mMV
abbrev mMS : Type := (Nat × Bool) × (Nat × Nat) × List (Nat × Nat) × List (Nat → Option Nat)
def r_no : Nat → Option Nat := fun _ => none
def ru (f : Nat → Option Nat) (k : Nat) (v : Option Nat) : Nat → Option Nat := fun j => if j = k then v else f j
abbrev mMM : Type := Nat → Nat → Int
abbrev mMH : Type := mMS × mMM
abbrev mN (h : mMH) : Nat := h.1.1.1
abbrev mT (h : mMH) : Bool := h.1.1.2
abbrev mC (h : mMH) : Nat := h.1.2.1.1
abbrev mSl (h : mMH) : Nat := h.1.2.1.2
abbrev mK (h : mMH) (a : Nat) : Nat × Nat := h.1.2.2.1.getD a (9, 0)
abbrev mR (h : mMH) (a : Nat) : Nat → Option Nat := h.1.2.2.2.getD a r_no
def up (m : mMM) (a k : Nat) (v : Int) : mMM := fun x j => if x = a then (if j = k then v else m x j) else m x j
def upR (m : List (Nat → Option Nat)) (a k : Nat) (v : Option Nat) : List (Nat → Option Nat) := m.set a (ru (m.getD a r_no) k v)
def alloc (h : mMH) (k : Nat × Nat) (sl : Nat) : mMH := (((mN h + 1, true), (mC h + 1, mSl h + sl), h.1.2.2.1 ++ [k], h.1.2.2.2 ++ [r_no]), h.2)
def thr (h : mMH) : mMH := (((mN h, false), (mC h + 1, mSl h + 6), h.1.2.2.1, h.1.2.2.2), h.2)
def kq (h : mMH) (a t x : Nat) : Bool := Nat.beq (mK h a).1 t && Nat.beq (mK h a).2 x
def ka (h : mMH) (a t : Nat) (i : Int) : Bool := Nat.beq (mK h a).1 t && (decide (0 ≤ i) && decide (i < ((mK h a).2 : Int)))
def inI (x : Int) : Bool := decide (-2147483648 ≤ x) && decide (x < 2147483648)
def inJ (x : Int) : Bool := decide (-9223372036854775808 ≤ x) && decide (x < 9223372036854775808)
def mcat : mMV → Nat
  | .inr (.inl _) => 2
  | _ => 1
def roomy (st : mST) : Bool := Nat.ble ((st.map mcat).sum) 8
abbrev mRR : Type := (Nat × (mLS × mST) × mMH) ⊕ ((Option mMV × mMH) ⊕ ((Nat × mMH) ⊕ (Nat × List mMV × Nat × mST)))
abbrev mOP : Type := mLS → mST → mMH → Option mRR
def nxt (pc : Nat) (ls : mLS) (st : mST) (h : mMH) : Option mRR := some (.inl (pc, (ls, st), h))
def kp (k : Nat) (ls : mLS) : mLS := match k with
  | 0 => ls
  | k + 1 => match ls[k]? with
    | some (some (.inr (.inl _))) => ls.set k none
    | _ => ls
def st1 (k : Nat) (v : mMV) (ls : mLS) : mLS := (kp k ls).set k (some v)
def st2 (k : Nat) (v : mMV) (ls : mLS) : mLS := ((kp k ls).set k (some v)).set (k + 1) none
-- constants, locals
def mo_const (v : mMV) (nx : Nat) : mOP := fun ls st h => nxt nx ls (v :: st) h
def mo_iload (k nx : Nat) : mOP := fun ls st h => match ls[k]? with
  | some (some (.inl x)) => nxt nx ls (vI x :: st) h
  | _ => none
def mo_lload (k nx : Nat) : mOP := fun ls st h => match ls[k]? with
  | some (some (.inr (.inl x))) => nxt nx ls (vJ x :: st) h
  | _ => none
def mo_aload (k nx : Nat) : mOP := fun ls st h => match ls[k]? with
  | some (some (.inr (.inr (some x)))) => nxt nx ls (vR (some x) :: st) h
  | _ => none
def mo_istore (k nx : Nat) : mOP := fun ls st h => match st with
  | .inl x :: r => bif Nat.blt k ls.length then nxt nx (st1 k (vI x) ls) r h else none
  | _ => none
def mo_lstore (k nx : Nat) : mOP := fun ls st h => match st with
  | .inr (.inl x) :: r => bif Nat.blt (k + 1) ls.length then nxt nx (st2 k (vJ x) ls) r h else none
  | _ => none
def mo_astore (k nx : Nat) : mOP := fun ls st h => match st with
  | .inr (.inr (some x)) :: r => bif Nat.blt k ls.length then nxt nx (st1 k (vR (some x)) ls) r h else none
  | _ => none
def mo_iinc (k : Nat) (n : Int) (nx : Nat) : mOP := fun ls st h => match ls[k]? with
  | some (some (.inl x)) => nxt nx (st1 k (vI (x + n)) ls) st h
  | _ => none
-- arithmetic
def mo_iadd (nx : Nat) : mOP := fun ls st h => match st with
  | .inl y :: .inl x :: r => nxt nx ls (vI (x + y) :: r) h
  | _ => none
def mo_isub (nx : Nat) : mOP := fun ls st h => match st with
  | .inl y :: .inl x :: r => nxt nx ls (vI (x - y) :: r) h
  | _ => none
def mo_imul (nx : Nat) : mOP := fun ls st h => match st with
  | .inl y :: .inl x :: r => nxt nx ls (vI (x * y) :: r) h
  | _ => none
def mo_idiv (nx : Nat) : mOP := fun ls st h => match st with
  | .inl y :: .inl x :: r => bif inI x && (inI y && decide (0 < y)) then nxt nx ls (vI (x.tdiv y) :: r) h else none
  | _ => none
def mo_irem (nx : Nat) : mOP := fun ls st h => match st with
  | .inl y :: .inl x :: r => bif inI x && (inI y && decide (0 < y)) then nxt nx ls (vI (x.tmod y) :: r) h else none
  | _ => none
def mo_iand (nx : Nat) : mOP := fun ls st h => match st with
  | .inl y :: .inl x :: r => bif inI y && (inI x && decide (0 ≤ y)) then (bif decide (0 ≤ x) then nxt nx ls (vI ((x.toNat &&& y.toNat : Nat) : Int) :: r) h else bif decide (y = 15) then nxt nx ls (vI (x % 16) :: r) h else none) else none
  | _ => none
def mo_ior (nx : Nat) : mOP := fun ls st h => match st with
  | .inl y :: .inl x :: r => bif inI y && (inI x && (decide (0 ≤ y) && decide (0 ≤ x))) then nxt nx ls (vI ((x.toNat ||| y.toNat : Nat) : Int) :: r) h else none
  | _ => none
def mo_ishl (nx : Nat) : mOP := fun ls st h => match st with
  | .inl y :: .inl x :: r => bif decide (0 ≤ y) && decide (y < 32) then nxt nx ls (vI (x * 2 ^ y.toNat) :: r) h else none
  | _ => none
def mo_ishr (nx : Nat) : mOP := fun ls st h => match st with
  | .inl y :: .inl x :: r => bif inI x && (decide (0 ≤ y) && decide (y < 32)) then nxt nx ls (vI (x / 2 ^ y.toNat) :: r) h else none
  | _ => none
def mo_ladd (nx : Nat) : mOP := fun ls st h => match st with
  | .inr (.inl y) :: .inr (.inl x) :: r => nxt nx ls (vJ (x + y) :: r) h
  | _ => none
def mo_lmul (nx : Nat) : mOP := fun ls st h => match st with
  | .inr (.inl y) :: .inr (.inl x) :: r => nxt nx ls (vJ (x * y) :: r) h
  | _ => none
def mo_ldiv (nx : Nat) : mOP := fun ls st h => match st with
  | .inr (.inl y) :: .inr (.inl x) :: r => bif inJ x && (inJ y && decide (0 < y)) then nxt nx ls (vJ (x.tdiv y) :: r) h else none
  | _ => none
def mo_lcmp (nx : Nat) : mOP := fun ls st h => match st with
  | .inr (.inl y) :: .inr (.inl x) :: r => bif inJ x && inJ y then nxt nx ls (vI (if x < y then -1 else if x = y then 0 else 1) :: r) h else none
  | _ => none
def mo_i2l (nx : Nat) : mOP := fun ls st h => match st with
  | .inl x :: r => bif inI x then nxt nx ls (vJ x :: r) h else none
  | _ => none
def mo_l2i (nx : Nat) : mOP := fun ls st h => match st with
  | .inr (.inl x) :: r => nxt nx ls (vI x :: r) h
  | _ => none
def mo_i2c (nx : Nat) : mOP := fun ls st h => match st with
  | .inl x :: r => nxt nx ls (vI (x % 65536) :: r) h
  | _ => none
/-- an addition that may wrap around: its value is taken into the range -/
def mo_iaddw (nx : Nat) : mOP := fun ls st h => match st with
  | .inl y :: .inl x :: r => nxt nx ls (vI ((x + y).bmod 4294967296) :: r) h
  | _ => none
/-- a mask y0 = M - 1 -/
def mo_iandm (y0 M : Int) (nx : Nat) : mOP := fun ls st h => match st with
  | .inl y :: .inl x :: r => bif decide (y = y0) then nxt nx ls (vI (x % M) :: r) h else none
  | _ => none
def mo_lshl (nx : Nat) : mOP := fun ls st h => match st with
  | .inl y :: .inr (.inl x) :: r => bif decide (0 ≤ y) && decide (y < 64) then nxt nx ls (vJ (x * 2 ^ y.toNat) :: r) h else none
  | _ => none
def mo_lshr (nx : Nat) : mOP := fun ls st h => match st with
  | .inl y :: .inr (.inl x) :: r => bif inJ x && (decide (0 ≤ y) && decide (y < 64)) then nxt nx ls (vJ (x / 2 ^ y.toNat) :: r) h else none
  | _ => none
-- stack
def mo_dup (nx : Nat) : mOP := fun ls st h => match st with
  | v :: r => bif Nat.beq (mcat v) 1 then nxt nx ls (v :: v :: r) h else none
  | _ => none
def mo_dup2 (nx : Nat) : mOP := fun ls st h => match st with
  | v :: w :: r => bif Nat.beq (mcat v) 1 && Nat.beq (mcat w) 1 then nxt nx ls (v :: w :: v :: w :: r) h else none
  | _ => none
def mo_dup2l (nx : Nat) : mOP := fun ls st h => match st with
  | .inr (.inl x) :: r => nxt nx ls (vJ x :: vJ x :: r) h
  | _ => none
def mo_pop (nx : Nat) : mOP := fun ls st h => match st with
  | v :: r => bif Nat.beq (mcat v) 1 then nxt nx ls r h else none
  | _ => none
-- branches
def mrel (k : Nat) (x y : Int) : Bool := match k with
  | 0 => decide (x = y)
  | 1 => !decide (x = y)
  | 2 => decide (x < y)
  | 3 => !decide (x < y)
  | 4 => decide (y < x)
  | _ => !decide (y < x)
def mo_icmp (k tgt nx : Nat) : mOP := fun ls st h => match st with
  | .inl y :: .inl x :: r => bif inI x && inI y then (bif mrel k x y then nxt tgt ls r h else nxt nx ls r h) else none
  | _ => none
def mo_if (k tgt nx : Nat) : mOP := fun ls st h => match st with
  | .inl x :: r => bif inI x then (bif mrel k x 0 then nxt tgt ls r h else nxt nx ls r h) else none
  | _ => none
def mo_goto (tgt : Nat) : mOP := fun ls st h => nxt tgt ls st h
def mo_tsw (tgts : List Nat) : mOP := fun ls st h => match st with
  | .inl x :: r => bif inI x && decide (0 ≤ x) then (match tgts[x.toNat]? with
    | some t => nxt t ls r h
    | none => none) else none
  | _ => none
-- fields
def mo_getI (c k nx : Nat) : mOP := fun ls st h => match st with
  | .inr (.inr (some a)) :: r => bif kq h a 0 c then nxt nx ls (vI (h.2 a k) :: r) h else none
  | _ => none
def mo_getJ (c k nx : Nat) : mOP := fun ls st h => match st with
  | .inr (.inr (some a)) :: r => bif kq h a 0 c then nxt nx ls (vJ (h.2 a k) :: r) h else none
  | _ => none
def mo_getR (c k nx : Nat) : mOP := fun ls st h => match st with
  | .inr (.inr (some a)) :: r => bif kq h a 0 c then nxt nx ls (vR (mR h a k) :: r) h else none
  | _ => none
def mo_putI (c k nx : Nat) : mOP := fun ls st h => match st with
  | .inl x :: .inr (.inr (some a)) :: r => bif kq h a 0 c then nxt nx ls r (h.1, up h.2 a k x) else none
  | _ => none
def mo_putZ (c k nx : Nat) : mOP := fun ls st h => match st with
  | .inl x :: .inr (.inr (some a)) :: r => bif kq h a 0 c && (decide (x = 0) || decide (x = 1)) then nxt nx ls r (h.1, up h.2 a k x) else none
  | _ => none
def mo_putJ (c k nx : Nat) : mOP := fun ls st h => match st with
  | .inr (.inl x) :: .inr (.inr (some a)) :: r => bif kq h a 0 c then nxt nx ls r (h.1, up h.2 a k x) else none
  | _ => none
def mo_putR (c k nx : Nat) : mOP := fun ls st h => match st with
  | .inr (.inr (some v)) :: .inr (.inr (some a)) :: r => bif kq h a 0 c then nxt nx ls r ((h.1.1, h.1.2.1, h.1.2.2.1, upR h.1.2.2.2 a k (some v)), h.2) else none
  | _ => none
-- arrays
def mo_iald (nx : Nat) : mOP := fun ls st h => match st with
  | .inl i :: .inr (.inr (some a)) :: r => bif ka h a 1 i then nxt nx ls (vI (h.2 a i.toNat) :: r) h else none
  | _ => none
def mo_lald (nx : Nat) : mOP := fun ls st h => match st with
  | .inl i :: .inr (.inr (some a)) :: r => bif ka h a 2 i then nxt nx ls (vJ (h.2 a i.toNat) :: r) h else none
  | _ => none
def mo_zald (nx : Nat) : mOP := fun ls st h => match st with
  | .inl i :: .inr (.inr (some a)) :: r => bif ka h a 3 i then nxt nx ls (vI (h.2 a i.toNat) :: r) h else none
  | _ => none
def mo_aald (t nx : Nat) : mOP := fun ls st h => match st with
  | .inl i :: .inr (.inr (some a)) :: r => bif ka h a t i then nxt nx ls (vR (mR h a i.toNat) :: r) h else none
  | _ => none
def mo_iast (nx : Nat) : mOP := fun ls st h => match st with
  | .inl x :: .inl i :: .inr (.inr (some a)) :: r => bif ka h a 1 i then nxt nx ls r (h.1, up h.2 a i.toNat x) else none
  | _ => none
def mo_last (nx : Nat) : mOP := fun ls st h => match st with
  | .inr (.inl x) :: .inl i :: .inr (.inr (some a)) :: r => bif ka h a 2 i then nxt nx ls r (h.1, up h.2 a i.toNat x) else none
  | _ => none
def mo_zast (nx : Nat) : mOP := fun ls st h => match st with
  | .inl x :: .inl i :: .inr (.inr (some a)) :: r => bif ka h a 3 i && (decide (x = 0) || decide (x = 1)) then nxt nx ls r (h.1, up h.2 a i.toNat x) else none
  | _ => none
def mo_aast (t c nx : Nat) : mOP := fun ls st h => match st with
  | .inr (.inr (some v)) :: .inl i :: .inr (.inr (some a)) :: r => bif ka h a t i && kq h v 0 c then nxt nx ls r ((h.1.1, h.1.2.1, h.1.2.2.1, upR h.1.2.2.2 a i.toNat (some v)), h.2) else none
  | _ => none
def mo_alen (t nx : Nat) : mOP := fun ls st h => match st with
  | .inr (.inr (some a)) :: r => bif Nat.beq (mK h a).1 t then nxt nx ls (vI ((mK h a).2 : Int) :: r) h else none
  | _ => none
-- the script, at address 0
def mo_slen (L nx : Nat) : mOP := fun ls st h => match st with
  | .inr (.inr (some 0)) :: r => nxt nx ls (vI (L : Int) :: r) h
  | _ => none
def mo_sld (L : Nat) (xs : Nat → Int32) (nx : Nat) : mOP := fun ls st h => match st with
  | .inl i :: .inr (.inr (some 0)) :: r => bif decide (0 ≤ i) && decide (i < (L : Int)) then nxt nx ls (vI (xs i.toNat).toInt :: r) h else none
  | _ => none
-- what is made
def mo_new (c n nx : Nat) : mOP := fun ls st h => bif mT h then nxt nx ls (vR (some (mN h)) :: st) (alloc h (0, c) n) else none
def mo_newa (t nx : Nat) : mOP := fun ls st h => match st with
  | .inl n :: r => bif mT h && (decide (0 ≤ n) && decide (n ≤ 1000)) then nxt nx ls (vR (some (mN h)) :: r) (alloc h (t, n.toNat) n.toNat) else none
  | _ => none
def rowsR (n N : Nat) : Nat → Option Nat := fun j => bif Nat.blt j N then some (n + 1 + j) else none
def rowsOf (h : mMH) (t t1 N K : Nat) : mMH := (((mN h + 1 + N, true), (mC h + 1 + N, mSl h + N + N * K), h.1.2.2.1 ++ (t, N) :: List.replicate N (t1, K), h.1.2.2.2 ++ rowsR (mN h) N :: List.replicate N r_no), h.2)
def mo_mna (t t1 nx : Nat) : mOP := fun ls st h => match st with
  | .inl k :: .inl n :: r => bif mT h && ((decide (0 ≤ n) && decide (n ≤ 1000)) && (decide (0 ≤ k) && decide (k ≤ 1000))) then nxt nx ls (vR (some (mN h)) :: r) (rowsOf h t t1 n.toNat k.toNat) else none
  | _ => none
def mo_objinit (nx : Nat) : mOP := fun ls st h => match st with
  | .inr (.inr (some _)) :: r => bif roomy r then nxt nx ls r h else none
  | _ => none
/-- Math.min, by the library's own contract -/
def mo_min (nx : Nat) : mOP := fun ls st h => match st with
  | .inl y :: .inl x :: r => bif inI x && (inI y && roomy r) then nxt nx ls (vI (if y < x then y else x) :: r) h else none
  | _ => none
-- calls: the callee's number, its class, how many values it takes
def mo_callS (i n nx : Nat) : mOP := fun _ st _ => bif Nat.ble n st.length && roomy (st.drop n) then some (.inr (.inr (.inr (i, (st.take n).reverse, nx, st.drop n)))) else none
def mo_callV (i c n nx : Nat) : mOP := fun _ st h => match (st.take (n + 1)).reverse with
  | .inr (.inr (some a)) :: as => bif kq h a 0 c && (Nat.beq as.length n && roomy (st.drop (n + 1))) then some (.inr (.inr (.inr (i, vR (some a) :: as, nx, st.drop (n + 1))))) else none
  | _ => none
def mo_callU (i1 c1 i2 c2 n nx : Nat) : mOP := fun _ st h => match (st.take (n + 1)).reverse with
  | .inr (.inr (some a)) :: as => bif Nat.beq as.length n && roomy (st.drop (n + 1)) then (bif kq h a 0 c1 then some (.inr (.inr (.inr (i1, vR (some a) :: as, nx, st.drop (n + 1))))) else bif kq h a 0 c2 then some (.inr (.inr (.inr (i2, vR (some a) :: as, nx, st.drop (n + 1))))) else none) else none
  | _ => none
-- ends
def mo_iret : mOP := fun _ st h => match st with
  | [.inl x] => some (.inr (.inl (some (vI x), h)))
  | _ => none
def mo_zret : mOP := fun _ st h => match st with
  | [.inl x] => bif decide (x = 0) || decide (x = 1) then some (.inr (.inl (some (vI x), h))) else none
  | _ => none
def mo_lret : mOP := fun _ st h => match st with
  | [.inr (.inl x)] => some (.inr (.inl (some (vJ x), h)))
  | _ => none
def mo_aret : mOP := fun _ st h => match st with
  | [.inr (.inr (some a))] => some (.inr (.inl (some (vR (some a)), h)))
  | _ => none
def mo_vret : mOP := fun _ st h => match st with
  | [] => some (.inr (.inl (none, h)))
  | _ => none
def mo_thr (E : Nat) : mOP := fun _ st h => bif roomy st then some (.inr (.inr (.inl (E, thr h)))) else none
/-- a method: its name, its bytes, its locals, what it returns, its table, what its handlers answer, its code -/
abbrev mMD : Type := (MethodName × ByteArray × Nat × Option FieldType) × (List (Nat × Nat × Nat × Nat) × List (Nat × Int)) × List (Nat × mOP)
abbrev dY (d : mMD) : MethodName := d.1.1
abbrev dB (d : mMD) : ByteArray := d.1.2.1
abbrev dL (d : mMD) : Nat := d.1.2.2.1
abbrev dT (d : mMD) : Option FieldType := d.1.2.2.2
abbrev dH (d : mMD) : List (Nat × Nat × Nat × Nat) := d.2.1.1
abbrev dX (d : mMD) : List (Nat × Int) := d.2.1.2
abbrev dC (d : mMD) : List (Nat × mOP) := d.2.2
def lk : List (Nat × mOP) → Nat → Option mOP
  | [], _ => none
  | q :: r, n => bif Nat.beq q.1 n then some q.2 else lk r n
def lx : List (Nat × Int) → Nat → Option Int
  | [], _ => none
  | q :: r, n => bif Nat.beq q.1 n then some q.2 else lx r n
def argL : List mMV → mLS
  | [] => []
  | .inr (.inl x) :: r => some (vJ x) :: none :: argL r
  | v :: r => some v :: argL r
def entL (n : Nat) (as : List mMV) : mLS := argL as ++ List.replicate (n - (argL as).length) none
def hcov (hh : List (Nat × Nat × Nat × Nat)) (pc : Nat) : Bool := hh.all (fun q => Nat.ble q.1 pc && Nat.blt pc q.2.1)
abbrev mRO : Type := (Option mMV ⊕ Nat) × mMH
def run (P : Nat → mMD) : Nat → Nat → Nat → Nat → mLS → mST → mMH → Option mRO
  | 0, _, _, _, _, _, _ => none
  | n + 1, d, j, pc, ls, st, h => match lk (dC (P j)) pc with
    | none => none
    | some f => match f ls st h with
      | none => none
      | some (.inl q) => run P n d j q.1 q.2.1.1 q.2.1.2 q.2.2
      | some (.inr (.inl q)) => some (.inl q.1, q.2)
      | some (.inr (.inr (.inl q))) => bif Nat.ble 7 d then some (.inr q.1, q.2) else none
      | some (.inr (.inr (.inr q))) => match d with
        | 0 => none
        | d' + 1 => bif Nat.ble (argL q.2.1).length (dL (P q.1)) then (match run P n d' q.1 0 (entL (dL (P q.1)) q.2.1) [] h with
          | none => none
          | some (.inl v, h1) => bif Nat.ble (mC h) (mC h1) && Nat.ble (mSl h) (mSl h1) then run P n d j q.2.2.1 ls (v.toList ++ q.2.2.2) h1 else none
          | some (.inr E, h1) => bif Nat.ble (mC h) (mC h1) && Nat.ble (mSl h) (mSl h1) then (match dX (P j) with
            | [] => some (.inr E, h1)
            | q0 :: qs => (match lx (q0 :: qs) E with
              | none => none
              | some k => bif hcov (dH (P j)) pc then some (.inl (some (vI k)), h1) else none)) else none) else none
