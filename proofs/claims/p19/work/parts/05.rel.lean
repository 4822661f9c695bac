/-! ===== the small machine against the machine: words, cells, the heap ===== -/
def w_all : List Cond := lw_tbl.filter goodWord
theorem w_in {w : Cond} (i : Nat) (h : lw_tbl[i]? = some w) (g : goodWord w = true) : w ∈ w_all := List.mem_filter.mpr ⟨List.mem_of_getElem? h, g⟩
theorem w_good {w : Cond} (h : w ∈ w_all) : w ∈ w_all ∧ ((w.onTables && w.keeps) = true ∨ ∃ ty, w = .arrayClass ty) := ⟨h, good_of_word (List.mem_filter.mp h).2⟩
def w_nst (w : Cond) : Bool := match w with
  | .fieldLinkNest .. => true
  | .methodLinkNest .. => true
  | .castable .. => true
  | .declares .. => true
  | _ => false
def w_bad : List Cond := lw_tbl.filter w_nst
theorem w_bin {w : Cond} (i : Nat) (h : lw_tbl[i]? = some w) (g : w_nst w = true) : w ∈ w_bad := List.mem_filter.mpr ⟨List.mem_of_getElem? h, g⟩
theorem w_warm {w : Cond} {s U : State} (hw : w_nst w = true) (hW : s.WarmedH U.vm) (h : va_Nw w s) : va_Nw w U := by
  cases w with
  | fieldLinkNest a i b n d h0 => exact va_Nw.warmF hW h
  | methodLinkNest a i x h0 => exact va_Nw.warmM hW h
  | castable C T => exact va_Nw.warmC hW h
  | declares x => exact va_Nw.warmD hW h
  | _ => cases hw
def w_over : List FieldType := [.object "Trellistag$Text", .object "Trellistag$Ranking", .array .int, .array .long]
theorem w_ovm {t : FieldType} {u U : State} (hvm : u.vm.Alike U.vm) (h : (Cond.arrayOver t).before #[] u = true) : (Cond.arrayOver t).before #[] U = true := by
  have e : (Cond.arrayOver t).before #[] U = (Cond.arrayOver t).before #[] (u.setVm U.vm) := rfl
  rw [e, Cond.arrayOver_setVmC hvm t]
  exact h
def w_str : List (Nat × String) := [(230, "there is no such rank"), (237, "the sentence is empty"), (71, "a letter is one of a to z"), (82, "the word that is typed has all its letters"), (228, "there is no such tag"), (235, "nothing is typed"), (103, "the draft has all its words"), (115, "the draft is empty"), (118, "there are all the texts that there can be"), (129, "there is no such text"), (137, "the sentence has all its words"), (232, "there is no such place")]
-- classes
abbrev vwCl : List vw_C := [(RX0, TX0, 4), (RX1, TX1, 5), (RX2, TX2, 4), (RX4, TX4, 3), (RX5, TX5, 3), (RX6, TX6, 4), (RX7, TX7, 4), (RX8, TX8, 2), (RX9, TX9, 9)]
def tyC (c : Nat) : Nat → FieldType := match c with
  | 0 => tyX0
  | 1 => tyX1
  | 2 => tyX2
  | 3 => tyX4
  | 4 => tyX5
  | 5 => tyX6
  | 6 => tyX7
  | 7 => tyX8
  | _ => tyX9
def nF (c : Nat) : Nat := match c with
  | 0 => 4
  | 1 => 5
  | 2 => 4
  | 3 => 3
  | 4 => 3
  | 5 => 4
  | 6 => 4
  | 7 => 2
  | _ => 9
def tyA (t : Nat) : FieldType := match t with
  | 1 => .int
  | 2 => .long
  | 3 => .int
  | 4 => .array .int
  | 5 => .array .long
  | 6 => .object "Trellistag$Text"
  | _ => .object "Trellistag$Ranking"
def tysL (aC : Nat → ClassId) : List (ClassId × FieldType) := [(aC 1, tyA 1), (aC 2, tyA 2), (aC 3, tyA 3), (aC 4, tyA 4), (aC 5, tyA 5), (aC 6, tyA 6), (aC 7, tyA 7)]
-- addresses and values
def adr (B b k : Nat) : Nat := if k = 0 then b else B + k
theorem adr_pos {B b k : Nat} (h : 1 ≤ k) : adr B b k = B + k := if_neg (by omega)
def eR (B b : Nat) (r : Option Nat) : Value := va_rf (r.map (adr B b))
def eV (B b : Nat) (v : mMV) : Value := match v with
  | .inl x => .int (Int32.ofInt x)
  | .inr (.inl x) => .long (Int64.ofInt x)
  | .inr (.inr r) => eR B b r
def eF (B b : Nat) (ty : FieldType) (x : Int) (r : Option Nat) : Value := match ty with
  | .long => .long (Int64.ofInt x)
  | .object _ => eR B b r
  | .array _ => eR B b r
  | _ => .int (Int32.ofInt x)
def oe (B b : Nat) (aC : Nat → ClassId) (h : mMH) (k : Nat) : va_E := match (mK h k).1 with
  | 0 => .inr ((mK h k).2, (List.range (nF (mK h k).2)).map (fun j => eF B b (tyC (mK h k).2 j) (h.2 k j) (mR h k j)))
  | 1 => .inl (aC 1, (mK h k).2, .inl (fun j => Int32.ofInt (h.2 k j)))
  | 2 => .inl (aC 2, (mK h k).2, .inr (.inl (fun j => Int64.ofInt (h.2 k j))))
  | 3 => .inl (aC 3, (mK h k).2, .inl (fun j => Int32.ofInt (h.2 k j)))
  | t => .inl (aC t, (mK h k).2, .inr (.inr (.inr (.inr (fun j => (mR h k j).map (adr B b))))))
def en (E : Nat) : String := match E with
  | 0 => "java/lang/IllegalArgumentException"
  | 1 => "java/lang/IllegalStateException"
  | _ => "java/lang/IndexOutOfBoundsException"
def HR (B b : Nat) (D : va_G) (aC : Nat → ClassId) (h : mMH) (H : Heap) : Prop :=
  ((mT h = true → H.size = B + mN h) ∧ B + mN h ≤ H.size ∧ 1 ≤ mN h) ∧ (∀ k, (mK h k).1 ≠ 9 → (1 ≤ k ∧ k < mN h) ∧ (mK h k).2 ≤ 1000) ∧ (∀ k, (mK h k).1 ≠ 9 → va_at D vwCl (B + k, oe B b aC h k) H) ∧ h.1.2.2.1.length = mN h ∧ h.1.2.2.2.length = mN h ∧ ∀ a, mN h ≤ a → h.2 a = fun _ => 0
def Gl (B b L : Nat) (xs : Nat → Int32) (U : State) (H : Heap) : Prop :=
  (B < H.size ∧ b ≤ B) ∧ va_X b L xs U H ∧ vx_Zq Bundle.tN "UNASSIGNED_STACK" Bundle.steD (fun q => B < q) U H ∧ vx_Zq Bundle.tN "SUPPRESSED_SENTINEL" Bundle.listD (fun q => B < q) U H ∧ (∀ q ∈ w_str, ∃ a, vk_R "Trellistag" q.1 q.2 a U) ∧ (∀ w ∈ w_bad, va_Nw w U) ∧ (∀ t ∈ w_over, (Cond.arrayOver t).before #[] U = true) ∧ ∀ E F : Nat, E < 3 → F < 3 → E ≠ F → va_Nc (en E) (en F) U
theorem Gl.moved {B b L : Nat} {xs : Nat → Int32} {s U : State} {H : Heap} (hW : s.WarmedH U.vm) (h : Gl B b L xs s H) : Gl B b L xs U H := by
  obtain ⟨h1, h2, h3, h4, h5, h6, h7, h8⟩ := h
  refine ⟨h1, h2.moved hW.alike, vx_Zq.moved hW.alike h3, vx_Zq.moved hW.alike h4, fun q hq => ?_, fun w hw => w_warm (List.mem_filter.mp hw).2 hW (h6 w hw), fun t ht => w_ovm hW.alike (h7 t ht), fun E F hE hF hn => (h8 E F hE hF hn).moved hW.alike⟩
  obtain ⟨a, ha⟩ := h5 q hq
  exact ⟨a, ha.warm hW⟩
theorem Gl.kept {B b L : Nat} {xs : Nat → Int32} {U : State} {H H1 : Heap} (h : Gl B b L xs U H) (hz : H.size ≤ H1.size) (hq : ∀ q : Nat, q ≤ B → H1[q]? = H[q]?) : Gl B b L xs U H1 := by
  obtain ⟨h1, h2, h3, h4, h5, h6, h7, h8⟩ := h
  exact ⟨⟨by omega, h1.2⟩, h2.kept (hq b h1.2), h3.kept (fun a _ h => hq a (Nat.not_lt.mp h)), h4.kept (fun a _ h => hq a (Nat.not_lt.mp h)), h5, h6, h7, h8⟩
theorem kq_k {h : mMH} {a t x : Nat} (hk : kq h a t x = true) : mK h a = (t, x) := by
  unfold kq at hk
  rw [Bool.and_eq_true] at hk
  exact Prod.ext (Nat.eq_of_beq_eq_true hk.1) (Nat.eq_of_beq_eq_true hk.2)
theorem ka_k {h : mMH} {a t : Nat} {i : Int} (hk : ka h a t i = true) : (mK h a).1 = t ∧ 0 ≤ i ∧ i < ((mK h a).2 : Int) := by
  unfold ka at hk
  rw [Bool.and_eq_true, Bool.and_eq_true, decide_eq_true_eq, decide_eq_true_eq] at hk
  exact ⟨Nat.eq_of_beq_eq_true hk.1, hk.2⟩
theorem oe_0 {B b : Nat} {aC : Nat → ClassId} {h : mMH} {a c : Nat} (hk : mK h a = (0, c)) : oe B b aC h a = .inr (c, (List.range (nF c)).map (fun j => eF B b (tyC c j) (h.2 a j) (mR h a j))) := by
  simp only [oe, hk]
theorem oe_1 {B b : Nat} {aC : Nat → ClassId} {h : mMH} {a : Nat} (hk : (mK h a).1 = 1) : oe B b aC h a = .inl (aC 1, (mK h a).2, .inl (fun j => Int32.ofInt (h.2 a j))) := by
  simp only [oe, hk]
theorem oe_2 {B b : Nat} {aC : Nat → ClassId} {h : mMH} {a : Nat} (hk : (mK h a).1 = 2) : oe B b aC h a = .inl (aC 2, (mK h a).2, .inr (.inl (fun j => Int64.ofInt (h.2 a j)))) := by
  simp only [oe, hk]
theorem oe_3 {B b : Nat} {aC : Nat → ClassId} {h : mMH} {a : Nat} (hk : (mK h a).1 = 3) : oe B b aC h a = .inl (aC 3, (mK h a).2, .inl (fun j => Int32.ofInt (h.2 a j))) := by
  simp only [oe, hk]
theorem oe_4 {B b : Nat} {aC : Nat → ClassId} {h : mMH} {a t : Nat} (hk : (mK h a).1 = t) (ht : 4 ≤ t) : oe B b aC h a = .inl (aC t, (mK h a).2, .inr (.inr (.inr (.inr (fun j => (mR h a j).map (adr B b)))))) := by
  obtain ⟨u, rfl⟩ : ∃ u, t = u + 4 := ⟨t - 4, by omega⟩
  simp only [oe, hk]
theorem w_sub (ws : List Cond) (ps : List Nat) (hp : ws = ps.filterMap (fun i => lw_tbl[i]?)) (h : ws.all goodWord = true) : ∀ w ∈ ws, w ∈ w_all := by
  intro w hw
  have h1 := List.all_eq_true.mp h w hw
  rw [hp] at hw
  obtain ⟨i, -, hi⟩ := List.mem_filterMap.mp hw
  exact w_in i hi h1
theorem w_cls_X0 : ∀ w ∈ wsX00, w ∈ w_all := w_sub _ [193, 195, 197, 199] (by decide +kernel) (by decide +kernel)
theorem w_cls_X1 : ∀ w ∈ wsX10, w ∈ w_all := w_sub _ [94, 96, 98, 100, 102] (by decide +kernel) (by decide +kernel)
theorem w_cls_X2 : ∀ w ∈ wsX20, w ∈ w_all := w_sub _ [132, 134, 136, 138] (by decide +kernel) (by decide +kernel)
theorem w_cls_X4 : ∀ w ∈ wsX40, w ∈ w_all := w_sub _ [162, 164, 166] (by decide +kernel) (by decide +kernel)
theorem w_cls_X5 : ∀ w ∈ wsX50, w ∈ w_all := w_sub _ [114, 116, 118] (by decide +kernel) (by decide +kernel)
theorem w_cls_X6 : ∀ w ∈ wsX60, w ∈ w_all := w_sub _ [79, 81, 83, 85] (by decide +kernel) (by decide +kernel)
theorem w_cls_X7 : ∀ w ∈ wsX70, w ∈ w_all := w_sub _ [174, 176, 178, 180] (by decide +kernel) (by decide +kernel)
theorem w_cls_X8 : ∀ w ∈ wsX80, w ∈ w_all := w_sub _ [52, 54] (by decide +kernel) (by decide +kernel)
theorem w_cls_X9 : ∀ w ∈ wsX90, w ∈ w_all := w_sub _ [213, 215, 217, 219, 221, 223, 225, 227, 229] (by decide +kernel) (by decide +kernel)
/-- a class's words and types -/
theorem cls_ok : ∀ (c : Nat) (q : vw_C), vwCl[c]? = some q → (∀ w ∈ u_ws q.1 q.2.1 q.2.2, w ∈ w_all) ∧ (∀ k, k < q.2.2 → parseFieldDescriptor (q.2.1 k).2.2.1 = some (tyC c k)) ∧ (∀ a, a < q.2.2 → ∀ b, b < q.2.2 → a ≠ b → (q.2.1 a).2.1 ≠ (q.2.1 b).2.1) ∧ nF c = q.2.2 := by
  intro c q hq
  match c, hq with
  | 0, hq => cases hq; exact ⟨w_cls_X0, tyX0_ok, nmX0, rfl⟩
  | 1, hq => cases hq; exact ⟨w_cls_X1, tyX1_ok, nmX1, rfl⟩
  | 2, hq => cases hq; exact ⟨w_cls_X2, tyX2_ok, nmX2, rfl⟩
  | 3, hq => cases hq; exact ⟨w_cls_X4, tyX4_ok, nmX4, rfl⟩
  | 4, hq => cases hq; exact ⟨w_cls_X5, tyX5_ok, nmX5, rfl⟩
  | 5, hq => cases hq; exact ⟨w_cls_X6, tyX6_ok, nmX6, rfl⟩
  | 6, hq => cases hq; exact ⟨w_cls_X7, tyX7_ok, nmX7, rfl⟩
  | 7, hq => cases hq; exact ⟨w_cls_X8, tyX8_ok, nmX8, rfl⟩
  | 8, hq => cases hq; exact ⟨w_cls_X9, tyX9_ok, nmX9, rfl⟩
  | c + 9, hq => simp [vwCl] at hq
theorem hr_live {B b : Nat} {D : va_G} {aC : Nat → ClassId} {h : mMH} {H : Heap} (hH : HR B b D aC h H) {a t x : Nat} (hk : mK h a = (t, x)) (ht : t ≠ 9) : (1 ≤ a ∧ a < mN h) ∧ x ≤ 1000 ∧ va_at D vwCl (B + a, oe B b aC h a) H := by
  have h9 : (mK h a).1 ≠ 9 := by rw [hk]; exact ht
  have h1 := hH.2.1 a h9
  rw [hk] at h1
  exact ⟨h1.1, h1.2, hH.2.2.1 a h9⟩
/-- a cell is written: what the heap holds then -/
theorem hr_put {B b : Nat} {D : va_G} {aC : Nat → ClassId} {h h' : mMH} {H H1 : Heap} (hH : HR B b D aC h H) {a : Nat} (ha : a < mN h) (h1 : h'.1.1 = h.1.1) (hl1 : h'.1.2.2.1 = h.1.2.2.1) (hl2 : h'.1.2.2.2.length = h.1.2.2.2.length) (hm : ∀ k, k ≠ a → h'.2 k = h.2 k) (hr : ∀ k, k ≠ a → mR h' k = mR h k)
    (hat : va_at D vwCl (B + a, oe B b aC h' a) H1) (hz : H1.size = H.size) (ho : ∀ q : Nat, q ≠ B + a → H1[q]? = H[q]?) : HR B b D aC h' H1 := by
  obtain ⟨⟨z1, z2, z3⟩, k1, c1, y1, y2, y3⟩ := hH
  have hk : mK h' = mK h := by funext k; show h'.1.2.2.1.getD k (9, 0) = _; rw [hl1]
  have e1 : mN h' = mN h := by show h'.1.1.1 = h.1.1.1; rw [h1]
  have e2 : mT h' = mT h := by show h'.1.1.2 = h.1.1.2; rw [h1]
  refine ⟨⟨by rw [e1, e2, hz]; exact z1, by rw [e1, hz]; exact z2, by rw [e1]; exact z3⟩, by rw [hk, e1]; exact k1, fun k h9 => ?_, by rw [hl1, e1]; exact y1, by rw [hl2, e1]; exact y2, fun k h9 => by rw [hm k (by omega)]; exact y3 k (by omega)⟩
  by_cases q : k = a
  · rw [q]; exact hat
  · have e3 : oe B b aC h' k = oe B b aC h k := by unfold oe; rw [hk, hm k q, hr k q]
    rw [e3]
    exact (c1 k (by rw [← hk]; exact h9)).kept (ho _ (by show B + k ≠ B + a; omega))
