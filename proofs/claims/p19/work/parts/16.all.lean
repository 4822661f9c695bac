/-! ===== all methods together ===== -/
def GM (L : Nat) (xs : Nat → Int32) (md : mMD) : Prop := (∀ q ∈ dC md, SJ L xs md q) ∧ dL md ≤ 20 ∧ plainName (dY md).cls = true ∧ ((dX md = [] ∧ dH md = []) ∨ (dX md ≠ [] ∧ dH md ≠ [] ∧ ∀ (E : Nat) (k : Int), lx (dX md) E = some k → ∀ (B b : Nat) (D : va_G) (aC : Nat → ClassId) (p : Program) (l : Launch) (e : Env) (R : Room) (s : State) (m : MethodId) (args : Array Value) (below : List Frame) (meth : Method) (c : Code) (d c0 s0 : Nat) (Q : State → Prop) (pc : Nat) (lsl : mLS) (h1 : mMH), Cx B b L xs D aC p l R s m args meth c md d → hcov (dH md) pc = true →
    WR B b D aC p l e R s m args below meth c md c0 s0 Q (some (vI k)) h1 → WX B b D aC p l e R s m args below meth c md c0 s0 Q E pc lsl h1))
theorem lk_mem : ∀ {l : List (Nat × mOP)} {n : Nat} {f : mOP}, lk l n = some f → (n, f) ∈ l
  | [], n, f, h => by cases h
  | q :: r, n, f, h => by
    unfold lk at h
    cases hq : Nat.beq q.1 n with
    | true =>
      rw [hq] at h
      cases h
      have := Nat.eq_of_beq_eq_true hq
      subst this
      exact List.mem_cons_self
    | false =>
      rw [hq] at h
      exact List.mem_cons_of_mem _ (lk_mem h)
theorem lx_1 {a E : Nat} {x k : Int} (h : lx [(a, x)] E = some k) : a = E ∧ x = k := by
  unfold lx at h
  cases hq : Nat.beq a E with
  | true =>
    have h : (bif Nat.beq a E then some x else lx [] E) = some k := h
    rw [hq] at h
    cases h
    exact ⟨Nat.eq_of_beq_eq_true hq, rfl⟩
  | false =>
    have h : (bif Nat.beq a E then some x else lx [] E) = some k := h
    rw [hq] at h
    cases h
theorem lx_2 {a c E : Nat} {x y k : Int} (h : lx [(a, x), (c, y)] E = some k) : (a = E ∧ x = k) ∨ (c = E ∧ y = k) := by
  unfold lx at h
  cases hq : Nat.beq a E with
  | true =>
    have h : (bif Nat.beq a E then some x else lx [(c, y)] E) = some k := h
    rw [hq] at h
    cases h
    exact Or.inl ⟨Nat.eq_of_beq_eq_true hq, rfl⟩
  | false =>
    have h : (bif Nat.beq a E then some x else lx [(c, y)] E) = some k := h
    rw [hq] at h
    exact Or.inr (lx_1 h)
theorem lx_3 {a c e E : Nat} {x y z k : Int} (h : lx [(a, x), (c, y), (e, z)] E = some k) : (a = E ∧ x = k) ∨ (c = E ∧ y = k) ∨ (e = E ∧ z = k) := by
  unfold lx at h
  cases hq : Nat.beq a E with
  | true =>
    have h : (bif Nat.beq a E then some x else lx [(c, y), (e, z)] E) = some k := h
    rw [hq] at h
    cases h
    exact Or.inl ⟨Nat.eq_of_beq_eq_true hq, rfl⟩
  | false =>
    have h : (bif Nat.beq a E then some x else lx [(c, y), (e, z)] E) = some k := h
    rw [hq] at h
    exact Or.inr (lx_2 h)
theorem gm_0 {L : Nat} {xs : Nat → Int32} : GM L xs (md_0) := ⟨sj_0, Nat.le_of_ble_eq_true rfl, show plainName ("Trellistag$AllPaths") = true from by decide, Or.inl ⟨rfl, rfl⟩⟩
theorem gm_1 {L : Nat} {xs : Nat → Int32} : GM L xs (md_1) := ⟨sj_1, Nat.le_of_ble_eq_true rfl, show plainName ("Trellistag$AllPaths") = true from by decide, Or.inl ⟨rfl, rfl⟩⟩
theorem gm_2 {L : Nat} {xs : Nat → Int32} : GM L xs (md_2) := ⟨sj_2, Nat.le_of_ble_eq_true rfl, show plainName ("Trellistag$AllPaths") = true from by decide, Or.inl ⟨rfl, rfl⟩⟩
theorem gm_3 {L : Nat} {xs : Nat → Int32} : GM L xs (md_3) := ⟨sj_3, Nat.le_of_ble_eq_true rfl, show plainName ("Trellistag$AllPaths") = true from by decide, Or.inl ⟨rfl, rfl⟩⟩
theorem gm_4 {L : Nat} {xs : Nat → Int32} : GM L xs (md_4) := ⟨sj_4, Nat.le_of_ble_eq_true rfl, show plainName ("Trellistag$AllPaths") = true from by decide, Or.inl ⟨rfl, rfl⟩⟩
theorem gm_5 {L : Nat} {xs : Nat → Int32} : GM L xs (md_5) := ⟨sj_5, Nat.le_of_ble_eq_true rfl, show plainName ("Trellistag$AllPaths") = true from by decide, Or.inl ⟨rfl, rfl⟩⟩
theorem gm_6 {L : Nat} {xs : Nat → Int32} : GM L xs (md_6) := ⟨sj_6, Nat.le_of_ble_eq_true rfl, show plainName ("Trellistag$AllPaths") = true from by decide, Or.inl ⟨rfl, rfl⟩⟩
theorem gm_7 {L : Nat} {xs : Nat → Int32} : GM L xs (md_7) := ⟨sj_7, Nat.le_of_ble_eq_true rfl, show plainName ("Trellistag$Corpus") = true from by decide, Or.inl ⟨rfl, rfl⟩⟩
theorem gm_8 {L : Nat} {xs : Nat → Int32} : GM L xs (md_8) := ⟨sj_8, Nat.le_of_ble_eq_true rfl, show plainName ("Trellistag$Corpus") = true from by decide, Or.inl ⟨rfl, rfl⟩⟩
theorem gm_9 {L : Nat} {xs : Nat → Int32} : GM L xs (md_9) := ⟨sj_9, Nat.le_of_ble_eq_true rfl, show plainName ("Trellistag$Corpus") = true from by decide, Or.inl ⟨rfl, rfl⟩⟩
theorem gm_10 {L : Nat} {xs : Nat → Int32} : GM L xs (md_10) := ⟨sj_10, Nat.le_of_ble_eq_true rfl, show plainName ("Trellistag$Corpus") = true from by decide, Or.inl ⟨rfl, rfl⟩⟩
theorem gm_11 {L : Nat} {xs : Nat → Int32} : GM L xs (md_11) := ⟨sj_11, Nat.le_of_ble_eq_true rfl, show plainName ("Trellistag$Corpus") = true from by decide, Or.inl ⟨rfl, rfl⟩⟩
theorem gm_12 {L : Nat} {xs : Nat → Int32} : GM L xs (md_12) := ⟨sj_12, Nat.le_of_ble_eq_true rfl, show plainName ("Trellistag$Corpus") = true from by decide, Or.inl ⟨rfl, rfl⟩⟩
theorem gm_13 {L : Nat} {xs : Nat → Int32} : GM L xs (md_13) := ⟨sj_13, Nat.le_of_ble_eq_true rfl, show plainName ("Trellistag$Corpus") = true from by decide, Or.inl ⟨rfl, rfl⟩⟩
theorem gm_14 {L : Nat} {xs : Nat → Int32} : GM L xs (md_14) := ⟨sj_14, Nat.le_of_ble_eq_true rfl, show plainName ("Trellistag$Corpus") = true from by decide, Or.inl ⟨rfl, rfl⟩⟩
theorem gm_15 {L : Nat} {xs : Nat → Int32} : GM L xs (md_15) := ⟨sj_15, Nat.le_of_ble_eq_true rfl, show plainName ("Trellistag$Corpus") = true from by decide, Or.inl ⟨rfl, rfl⟩⟩
theorem gm_16 {L : Nat} {xs : Nat → Int32} : GM L xs (md_16) := ⟨sj_16, Nat.le_of_ble_eq_true rfl, show plainName ("Trellistag$Corpus") = true from by decide, Or.inl ⟨rfl, rfl⟩⟩
theorem gm_17 {L : Nat} {xs : Nat → Int32} : GM L xs (md_17) := ⟨sj_17, Nat.le_of_ble_eq_true rfl, show plainName ("Trellistag$Corpus") = true from by decide, Or.inl ⟨rfl, rfl⟩⟩
theorem gm_18 {L : Nat} {xs : Nat → Int32} : GM L xs (md_18) := ⟨sj_18, Nat.le_of_ble_eq_true rfl, show plainName ("Trellistag$Corpus") = true from by decide, Or.inl ⟨rfl, rfl⟩⟩
theorem gm_19 {L : Nat} {xs : Nat → Int32} : GM L xs (md_19) := ⟨sj_19, Nat.le_of_ble_eq_true rfl, show plainName ("Trellistag$Corpus") = true from by decide, Or.inl ⟨rfl, rfl⟩⟩
theorem gm_20 {L : Nat} {xs : Nat → Int32} : GM L xs (md_20) := ⟨sj_20, Nat.le_of_ble_eq_true rfl, show plainName ("Trellistag$Corpus") = true from by decide, Or.inl ⟨rfl, rfl⟩⟩
theorem gm_21 {L : Nat} {xs : Nat → Int32} : GM L xs (md_21) := ⟨sj_21, Nat.le_of_ble_eq_true rfl, show plainName ("Trellistag$Lattice") = true from by decide, Or.inl ⟨rfl, rfl⟩⟩
theorem gm_22 {L : Nat} {xs : Nat → Int32} : GM L xs (md_22) := ⟨sj_22, Nat.le_of_ble_eq_true rfl, show plainName ("Trellistag$Lattice") = true from by decide, Or.inl ⟨rfl, rfl⟩⟩
theorem gm_23 {L : Nat} {xs : Nat → Int32} : GM L xs (md_23) := ⟨sj_23, Nat.le_of_ble_eq_true rfl, show plainName ("Trellistag$Lattice") = true from by decide, Or.inl ⟨rfl, rfl⟩⟩
theorem gm_24 {L : Nat} {xs : Nat → Int32} : GM L xs (md_24) := ⟨sj_24, Nat.le_of_ble_eq_true rfl, show plainName ("Trellistag$Lattice") = true from by decide, Or.inl ⟨rfl, rfl⟩⟩
theorem gm_25 {L : Nat} {xs : Nat → Int32} : GM L xs (md_25) := ⟨sj_25, Nat.le_of_ble_eq_true rfl, show plainName ("Trellistag$Lattice") = true from by decide, Or.inl ⟨rfl, rfl⟩⟩
theorem gm_26 {L : Nat} {xs : Nat → Int32} : GM L xs (md_26) := ⟨sj_26, Nat.le_of_ble_eq_true rfl, show plainName ("Trellistag$PathFinder") = true from by decide, Or.inl ⟨rfl, rfl⟩⟩
theorem gm_27 {L : Nat} {xs : Nat → Int32} : GM L xs (md_27) := ⟨sj_27, Nat.le_of_ble_eq_true rfl, show plainName ("Trellistag$Ranking") = true from by decide, Or.inl ⟨rfl, rfl⟩⟩
theorem gm_28 {L : Nat} {xs : Nat → Int32} : GM L xs (md_28) := ⟨sj_28, Nat.le_of_ble_eq_true rfl, show plainName ("Trellistag$Ranking") = true from by decide, Or.inl ⟨rfl, rfl⟩⟩
theorem gm_29 {L : Nat} {xs : Nat → Int32} : GM L xs (md_29) := ⟨sj_29, Nat.le_of_ble_eq_true rfl, show plainName ("Trellistag$Ranking") = true from by decide, Or.inl ⟨rfl, rfl⟩⟩
theorem gm_30 {L : Nat} {xs : Nat → Int32} : GM L xs (md_30) := ⟨sj_30, Nat.le_of_ble_eq_true rfl, show plainName ("Trellistag$Ranking") = true from by decide, Or.inl ⟨rfl, rfl⟩⟩
theorem gm_31 {L : Nat} {xs : Nat → Int32} : GM L xs (md_31) := ⟨sj_31, Nat.le_of_ble_eq_true rfl, show plainName ("Trellistag$Ranking") = true from by decide, Or.inl ⟨rfl, rfl⟩⟩
theorem gm_32 {L : Nat} {xs : Nat → Int32} : GM L xs (md_32) := ⟨sj_32, Nat.le_of_ble_eq_true rfl, show plainName ("Trellistag$Ranking") = true from by decide, Or.inl ⟨rfl, rfl⟩⟩
theorem gm_33 {L : Nat} {xs : Nat → Int32} : GM L xs (md_33) := ⟨sj_33, Nat.le_of_ble_eq_true rfl, show plainName ("Trellistag$Ranking") = true from by decide, Or.inl ⟨rfl, rfl⟩⟩
theorem gm_34 {L : Nat} {xs : Nat → Int32} : GM L xs (md_34) := ⟨sj_34, Nat.le_of_ble_eq_true rfl, show plainName ("Trellistag$Ranking") = true from by decide, Or.inl ⟨rfl, rfl⟩⟩
theorem gm_35 {L : Nat} {xs : Nat → Int32} : GM L xs (md_35) := ⟨sj_35, Nat.le_of_ble_eq_true rfl, show plainName ("Trellistag$Ranking") = true from by decide, Or.inl ⟨rfl, rfl⟩⟩
theorem gm_36 {L : Nat} {xs : Nat → Int32} : GM L xs (md_36) := ⟨sj_36, Nat.le_of_ble_eq_true rfl, show plainName ("Trellistag$Sentence") = true from by decide, Or.inl ⟨rfl, rfl⟩⟩
theorem gm_37 {L : Nat} {xs : Nat → Int32} : GM L xs (md_37) := ⟨sj_37, Nat.le_of_ble_eq_true rfl, show plainName ("Trellistag$Sentence") = true from by decide, Or.inl ⟨rfl, rfl⟩⟩
theorem gm_38 {L : Nat} {xs : Nat → Int32} : GM L xs (md_38) := ⟨sj_38, Nat.le_of_ble_eq_true rfl, show plainName ("Trellistag$Sentence") = true from by decide, Or.inl ⟨rfl, rfl⟩⟩
theorem gm_39 {L : Nat} {xs : Nat → Int32} : GM L xs (md_39) := ⟨sj_39, Nat.le_of_ble_eq_true rfl, show plainName ("Trellistag$Sentence") = true from by decide, Or.inl ⟨rfl, rfl⟩⟩
theorem gm_40 {L : Nat} {xs : Nat → Int32} : GM L xs (md_40) := ⟨sj_40, Nat.le_of_ble_eq_true rfl, show plainName ("Trellistag$Sentence") = true from by decide, Or.inl ⟨rfl, rfl⟩⟩
theorem gm_41 {L : Nat} {xs : Nat → Int32} : GM L xs (md_41) := ⟨sj_41, Nat.le_of_ble_eq_true rfl, show plainName ("Trellistag$Sentence") = true from by decide, Or.inl ⟨rfl, rfl⟩⟩
theorem gm_42 {L : Nat} {xs : Nat → Int32} : GM L xs (md_42) := ⟨sj_42, Nat.le_of_ble_eq_true rfl, show plainName ("Trellistag$Sentence") = true from by decide, Or.inl ⟨rfl, rfl⟩⟩
theorem gm_43 {L : Nat} {xs : Nat → Int32} : GM L xs (md_43) := ⟨sj_43, Nat.le_of_ble_eq_true rfl, show plainName ("Trellistag$Sentence") = true from by decide, Or.inl ⟨rfl, rfl⟩⟩
theorem gm_44 {L : Nat} {xs : Nat → Int32} : GM L xs (md_44) := ⟨sj_44, Nat.le_of_ble_eq_true rfl, show plainName ("Trellistag$Text") = true from by decide, Or.inl ⟨rfl, rfl⟩⟩
theorem gm_45 {L : Nat} {xs : Nat → Int32} : GM L xs (md_45) := ⟨sj_45, Nat.le_of_ble_eq_true rfl, show plainName ("Trellistag$Text") = true from by decide, Or.inl ⟨rfl, rfl⟩⟩
theorem gm_46 {L : Nat} {xs : Nat → Int32} : GM L xs (md_46) := ⟨sj_46, Nat.le_of_ble_eq_true rfl, show plainName ("Trellistag$Text") = true from by decide, Or.inl ⟨rfl, rfl⟩⟩
theorem gm_47 {L : Nat} {xs : Nat → Int32} : GM L xs (md_47) := ⟨sj_47, Nat.le_of_ble_eq_true rfl, show plainName ("Trellistag$Text") = true from by decide, Or.inl ⟨rfl, rfl⟩⟩
theorem gm_48 {L : Nat} {xs : Nat → Int32} : GM L xs (md_48) := ⟨sj_48, Nat.le_of_ble_eq_true rfl, show plainName ("Trellistag$Trellis") = true from by decide, Or.inl ⟨rfl, rfl⟩⟩
theorem gm_49 {L : Nat} {xs : Nat → Int32} : GM L xs (md_49) := ⟨sj_49, Nat.le_of_ble_eq_true rfl, show plainName ("Trellistag$Trellis") = true from by decide, Or.inl ⟨rfl, rfl⟩⟩
theorem gm_50 {L : Nat} {xs : Nat → Int32} : GM L xs (md_50) := ⟨sj_50, Nat.le_of_ble_eq_true rfl, show plainName ("Trellistag$Trellis") = true from by decide, Or.inl ⟨rfl, rfl⟩⟩
theorem gm_51 {L : Nat} {xs : Nat → Int32} : GM L xs (md_51) := ⟨sj_51, Nat.le_of_ble_eq_true rfl, show plainName ("Trellistag$Trellis") = true from by decide, Or.inl ⟨rfl, rfl⟩⟩
theorem gm_52 {L : Nat} {xs : Nat → Int32} : GM L xs (md_52) := ⟨sj_52, Nat.le_of_ble_eq_true rfl, show plainName ("Trellistag$Trellis") = true from by decide, Or.inl ⟨rfl, rfl⟩⟩
theorem gm_53 {L : Nat} {xs : Nat → Int32} : GM L xs (md_53) := ⟨sj_53, Nat.le_of_ble_eq_true rfl, show plainName ("Trellistag$Trellis") = true from by decide, Or.inl ⟨rfl, rfl⟩⟩
theorem gm_54 {L : Nat} {xs : Nat → Int32} : GM L xs (md_54) := ⟨sj_54, Nat.le_of_ble_eq_true rfl, show plainName ("Trellistag$Trellis") = true from by decide, Or.inl ⟨rfl, rfl⟩⟩
theorem gm_55 {L : Nat} {xs : Nat → Int32} : GM L xs (md_55) := ⟨sj_55, Nat.le_of_ble_eq_true rfl, show plainName ("Trellistag$TypedWord") = true from by decide, Or.inl ⟨rfl, rfl⟩⟩
theorem gm_56 {L : Nat} {xs : Nat → Int32} : GM L xs (md_56) := ⟨sj_56, Nat.le_of_ble_eq_true rfl, show plainName ("Trellistag$TypedWord") = true from by decide, Or.inl ⟨rfl, rfl⟩⟩
theorem gm_57 {L : Nat} {xs : Nat → Int32} : GM L xs (md_57) := ⟨sj_57, Nat.le_of_ble_eq_true rfl, show plainName ("Trellistag$TypedWord") = true from by decide, Or.inl ⟨rfl, rfl⟩⟩
theorem gm_58 {L : Nat} {xs : Nat → Int32} : GM L xs (md_58) := ⟨sj_58, Nat.le_of_ble_eq_true rfl, show plainName ("Trellistag$TypedWord") = true from by decide, Or.inl ⟨rfl, rfl⟩⟩
theorem gm_59 {L : Nat} {xs : Nat → Int32} : GM L xs (md_59) := ⟨sj_59, Nat.le_of_ble_eq_true rfl, show plainName ("Trellistag$TypedWord") = true from by decide, Or.inl ⟨rfl, rfl⟩⟩
theorem gm_60 {L : Nat} {xs : Nat → Int32} : GM L xs (md_60) := ⟨sj_60, Nat.le_of_ble_eq_true rfl, show plainName ("Trellistag$TypedWord") = true from by decide, Or.inl ⟨rfl, rfl⟩⟩
theorem gm_61 {L : Nat} {xs : Nat → Int32} : GM L xs (md_61) := ⟨sj_61, Nat.le_of_ble_eq_true rfl, show plainName ("Trellistag") = true from by decide, Or.inl ⟨rfl, rfl⟩⟩
theorem gm_62 {L : Nat} {xs : Nat → Int32} : GM L xs (md_62) := ⟨sj_62, Nat.le_of_ble_eq_true rfl, show plainName ("Trellistag") = true from by decide, Or.inl ⟨rfl, rfl⟩⟩
theorem gm_63 {L : Nat} {xs : Nat → Int32} : GM L xs (md_63) := ⟨sj_63, Nat.le_of_ble_eq_true rfl, show plainName ("Trellistag") = true from by decide, Or.inl ⟨rfl, rfl⟩⟩
theorem gm_64 {L : Nat} {xs : Nat → Int32} : GM L xs (md_64) := ⟨sj_64, Nat.le_of_ble_eq_true rfl, show plainName ("Trellistag") = true from by decide, Or.inl ⟨rfl, rfl⟩⟩
theorem gm_65 {L : Nat} {xs : Nat → Int32} : GM L xs (md_65) := ⟨sj_65, Nat.le_of_ble_eq_true rfl, show plainName ("Trellistag") = true from by decide, Or.inl ⟨rfl, rfl⟩⟩
theorem gm_66 {L : Nat} {xs : Nat → Int32} : GM L xs (md_66) := ⟨sj_66, Nat.le_of_ble_eq_true rfl, show plainName ("Trellistag") = true from by decide, Or.inl ⟨rfl, rfl⟩⟩
theorem gm_67 {L : Nat} {xs : Nat → Int32} : GM L xs (md_67) := ⟨sj_67, Nat.le_of_ble_eq_true rfl, show plainName ("Trellistag") = true from by decide, Or.inl ⟨rfl, rfl⟩⟩
theorem gm_68 {L : Nat} {xs : Nat → Int32} : GM L xs (md_68) := ⟨sj_68, Nat.le_of_ble_eq_true rfl, show plainName ("Trellistag") = true from by decide, Or.inl ⟨rfl, rfl⟩⟩
theorem gm_69 {L : Nat} {xs : Nat → Int32} : GM L xs (md_69) := ⟨sj_69, Nat.le_of_ble_eq_true rfl, show plainName ("Trellistag") = true from by decide, Or.inl ⟨rfl, rfl⟩⟩
theorem gm_70 {L : Nat} {xs : Nat → Int32} : GM L xs (md_70) := ⟨sj_70, Nat.le_of_ble_eq_true rfl, show plainName ("Trellistag") = true from by decide, Or.inl ⟨rfl, rfl⟩⟩
theorem gm_71 {L : Nat} {xs : Nat → Int32} : GM L xs (md_71) := ⟨sj_71, Nat.le_of_ble_eq_true rfl, show plainName ("Trellistag") = true from by decide, Or.inl ⟨rfl, rfl⟩⟩
theorem gm_72 {L : Nat} {xs : Nat → Int32} : GM L xs (md_72) := ⟨sj_72, Nat.le_of_ble_eq_true rfl, show plainName ("Trellistag") = true from by decide, Or.inl ⟨rfl, rfl⟩⟩
theorem gm_73 {L : Nat} {xs : Nat → Int32} : GM L xs (md_73) := ⟨sj_73, Nat.le_of_ble_eq_true rfl, show plainName ("Trellistag") = true from by decide, Or.inl ⟨rfl, rfl⟩⟩
theorem gm_74 {L : Nat} {xs : Nat → Int32} : GM L xs (md_74) := ⟨sj_74, Nat.le_of_ble_eq_true rfl, show plainName ("Trellistag") = true from by decide, Or.inl ⟨rfl, rfl⟩⟩
theorem gm_75 {L : Nat} {xs : Nat → Int32} : GM L xs (md_75) := ⟨sj_75, Nat.le_of_ble_eq_true rfl, show plainName ("Trellistag") = true from by decide, Or.inl ⟨rfl, rfl⟩⟩
theorem gm_76 {L : Nat} {xs : Nat → Int32} : GM L xs (md_76) := ⟨sj_76, Nat.le_of_ble_eq_true rfl, show plainName ("Trellistag") = true from by decide, Or.inl ⟨rfl, rfl⟩⟩
theorem gm_77 {L : Nat} {xs : Nat → Int32} : GM L xs (md_77) := ⟨sj_77, Nat.le_of_ble_eq_true rfl, show plainName ("Trellistag") = true from by decide, Or.inl ⟨rfl, rfl⟩⟩
theorem gm_78 {L : Nat} {xs : Nat → Int32} : GM L xs (md_78) := ⟨sj_78, Nat.le_of_ble_eq_true rfl, show plainName ("Trellistag") = true from by decide, Or.inl ⟨rfl, rfl⟩⟩
theorem gm_79 {L : Nat} {xs : Nat → Int32} : GM L xs (md_79) := ⟨sj_79, Nat.le_of_ble_eq_true rfl, show plainName ("Trellistag") = true from by decide, Or.inl ⟨rfl, rfl⟩⟩
theorem gm_80 {L : Nat} {xs : Nat → Int32} : GM L xs (md_80) := ⟨sj_80, Nat.le_of_ble_eq_true rfl, show plainName ("Trellistag") = true from by decide, Or.inl ⟨rfl, rfl⟩⟩
theorem gm_81 {L : Nat} {xs : Nat → Int32} : GM L xs (md_81) := ⟨sj_81, Nat.le_of_ble_eq_true rfl, show plainName ("Trellistag") = true from by decide, Or.inl ⟨rfl, rfl⟩⟩
theorem gm_82 {L : Nat} {xs : Nat → Int32} : GM L xs (md_82) := ⟨sj_82, Nat.le_of_ble_eq_true rfl, show plainName ("Trellistag") = true from by decide, Or.inl ⟨rfl, rfl⟩⟩
theorem gm_83 {L : Nat} {xs : Nat → Int32} : GM L xs (md_83) := ⟨sj_83, Nat.le_of_ble_eq_true rfl, show plainName ("Trellistag") = true from by decide, Or.inl ⟨rfl, rfl⟩⟩
theorem gm_84 {L : Nat} {xs : Nat → Int32} : GM L xs (md_84) := ⟨sj_84, Nat.le_of_ble_eq_true rfl, show plainName ("Trellistag") = true from by decide, Or.inl ⟨rfl, rfl⟩⟩
theorem gm_85 {L : Nat} {xs : Nat → Int32} : GM L xs (md_85) := ⟨sj_85, Nat.le_of_ble_eq_true rfl, show plainName ("Trellistag") = true from by decide, Or.inl ⟨rfl, rfl⟩⟩
theorem gm_86 {L : Nat} {xs : Nat → Int32} : GM L xs (md_86) := ⟨sj_86, Nat.le_of_ble_eq_true rfl, show plainName ("Trellistag") = true from by decide, Or.inl ⟨rfl, rfl⟩⟩
theorem gm_87 {L : Nat} {xs : Nat → Int32} : GM L xs (md_87) := ⟨sj_87, Nat.le_of_ble_eq_true rfl, show plainName ("Trellistag") = true from by decide, Or.inl ⟨rfl, rfl⟩⟩
theorem gm_88 {L : Nat} {xs : Nat → Int32} : GM L xs (md_88) := ⟨sj_88, Nat.le_of_ble_eq_true rfl, show plainName ("Trellistag") = true from by decide, Or.inl ⟨rfl, rfl⟩⟩
theorem gm_89 {L : Nat} {xs : Nat → Int32} : GM L xs (md_89) := ⟨sj_89, Nat.le_of_ble_eq_true rfl, show plainName ("Trellistag") = true from by decide, Or.inl ⟨rfl, rfl⟩⟩
theorem gm_90 {L : Nat} {xs : Nat → Int32} : GM L xs (md_90) := ⟨sj_90, Nat.le_of_ble_eq_true rfl, show plainName ("Trellistag") = true from by decide, Or.inl ⟨rfl, rfl⟩⟩
theorem gm_91 {L : Nat} {xs : Nat → Int32} : GM L xs (md_91) := ⟨sj_91, Nat.le_of_ble_eq_true rfl, show plainName ("TrellistagLaw") = true from by decide, Or.inl ⟨rfl, rfl⟩⟩
theorem gm_92 {L : Nat} {xs : Nat → Int32} : GM L xs md_92 := by
  refine ⟨sj_92, Nat.le_of_ble_eq_true rfl, show plainName "TrellistagLaw" = true from by decide, Or.inr ⟨List.cons_ne_nil _ _, List.cons_ne_nil _ _, ?_⟩⟩
  intro E k hk B b D aC p l e R s m args below meth c d c0 s0 Q pc lsl h1 X hcv hw
  have hk : lx [(2, -1011), (0, -1012), (1, -1013)] E = some k := hk
  rcases lx_3 hk with ⟨rfl, rfl⟩ | ⟨rfl, rfl⟩ | ⟨rfl, rfl⟩
  · exact wx_catch (pre := []) (suf := [(0, 7, 14, 58), (0, 7, 20, 60)]) (st := 0) (en0 := 7) (hpc := 8) (ct := 56) (n := 4) (len0 := 2) X (by omega) rfl hcv (by decide) (fun z hz => absurd hz List.not_mem_nil) wq_479 wq_249 rfl (Nat.lt_of_lt_of_le (by decide : 4 < 5) (Nat.le_refl _)) (Or.inr ⟨by decide +kernel, rfl⟩) (by decide +kernel) (by decide +kernel) (by decide +kernel) hw
  · exact wx_catch (pre := [(0, 7, 8, 56)]) (suf := [(0, 7, 20, 60)]) (st := 0) (en0 := 7) (hpc := 14) (ct := 58) (n := 4) (len0 := 2) X (by omega) rfl hcv (by decide) (fun z hz => by
      rcases List.mem_cons.mp hz with rfl | hz
      · exact ⟨by decide, 2, by omega, by omega, wq_479⟩
      exact absurd hz List.not_mem_nil) wq_480 wq_491 rfl (Nat.lt_of_lt_of_le (by decide : 4 < 5) (Nat.le_refl _)) (Or.inr ⟨by decide +kernel, rfl⟩) (by decide +kernel) (by decide +kernel) (by decide +kernel) hw
  · exact wx_catch (pre := [(0, 7, 8, 56), (0, 7, 14, 58)]) (suf := []) (st := 0) (en0 := 7) (hpc := 20) (ct := 60) (n := 4) (len0 := 2) X (by omega) rfl hcv (by decide) (fun z hz => by
      rcases List.mem_cons.mp hz with rfl | hz
      · exact ⟨by decide, 2, by omega, by omega, wq_479⟩
      rcases List.mem_cons.mp hz with rfl | hz
      · exact ⟨by decide, 0, by omega, by omega, wq_480⟩
      exact absurd hz List.not_mem_nil) wq_481 wq_325 rfl (Nat.lt_of_lt_of_le (by decide : 4 < 5) (Nat.le_refl _)) (Or.inr ⟨by decide +kernel, rfl⟩) (by decide +kernel) (by decide +kernel) (by decide +kernel) hw
theorem gm_93 {L : Nat} {xs : Nat → Int32} (hL : L ≤ 260) : GM L xs (md_93 L xs) := ⟨sj_93 hL, Nat.le_of_ble_eq_true rfl, show plainName ("TrellistagLaw") = true from by decide, Or.inl ⟨rfl, rfl⟩⟩
theorem gm_94 {L : Nat} {xs : Nat → Int32} : GM L xs (md_94) := ⟨sj_94, Nat.le_of_ble_eq_true rfl, show plainName ("TrellistagLaw") = true from by decide, Or.inl ⟨rfl, rfl⟩⟩
theorem gm_95 {L : Nat} {xs : Nat → Int32} : GM L xs (md_95) := ⟨sj_95, Nat.le_of_ble_eq_true rfl, show plainName ("TrellistagLaw") = true from by decide, Or.inl ⟨rfl, rfl⟩⟩
theorem gm_96 {L : Nat} {xs : Nat → Int32} (hL : L ≤ 260) : GM L xs (md_96 L xs) := ⟨sj_96 hL, Nat.le_of_ble_eq_true rfl, show plainName (RL) = true from by decide, Or.inl ⟨rfl, rfl⟩⟩
theorem gm_all {L : Nat} {xs : Nat → Int32} (hL : L ≤ 260) : ∀ md ∈ mds L xs, GM L xs md := by
  refine List.forall_mem_cons.mpr ⟨gm_0, ?_⟩
  refine List.forall_mem_cons.mpr ⟨gm_1, ?_⟩
  refine List.forall_mem_cons.mpr ⟨gm_2, ?_⟩
  refine List.forall_mem_cons.mpr ⟨gm_3, ?_⟩
  refine List.forall_mem_cons.mpr ⟨gm_4, ?_⟩
  refine List.forall_mem_cons.mpr ⟨gm_5, ?_⟩
  refine List.forall_mem_cons.mpr ⟨gm_6, ?_⟩
  refine List.forall_mem_cons.mpr ⟨gm_7, ?_⟩
  refine List.forall_mem_cons.mpr ⟨gm_8, ?_⟩
  refine List.forall_mem_cons.mpr ⟨gm_9, ?_⟩
  refine List.forall_mem_cons.mpr ⟨gm_10, ?_⟩
  refine List.forall_mem_cons.mpr ⟨gm_11, ?_⟩
  refine List.forall_mem_cons.mpr ⟨gm_12, ?_⟩
  refine List.forall_mem_cons.mpr ⟨gm_13, ?_⟩
  refine List.forall_mem_cons.mpr ⟨gm_14, ?_⟩
  refine List.forall_mem_cons.mpr ⟨gm_15, ?_⟩
  refine List.forall_mem_cons.mpr ⟨gm_16, ?_⟩
  refine List.forall_mem_cons.mpr ⟨gm_17, ?_⟩
  refine List.forall_mem_cons.mpr ⟨gm_18, ?_⟩
  refine List.forall_mem_cons.mpr ⟨gm_19, ?_⟩
  refine List.forall_mem_cons.mpr ⟨gm_20, ?_⟩
  refine List.forall_mem_cons.mpr ⟨gm_21, ?_⟩
  refine List.forall_mem_cons.mpr ⟨gm_22, ?_⟩
  refine List.forall_mem_cons.mpr ⟨gm_23, ?_⟩
  refine List.forall_mem_cons.mpr ⟨gm_24, ?_⟩
  refine List.forall_mem_cons.mpr ⟨gm_25, ?_⟩
  refine List.forall_mem_cons.mpr ⟨gm_26, ?_⟩
  refine List.forall_mem_cons.mpr ⟨gm_27, ?_⟩
  refine List.forall_mem_cons.mpr ⟨gm_28, ?_⟩
  refine List.forall_mem_cons.mpr ⟨gm_29, ?_⟩
  refine List.forall_mem_cons.mpr ⟨gm_30, ?_⟩
  refine List.forall_mem_cons.mpr ⟨gm_31, ?_⟩
  refine List.forall_mem_cons.mpr ⟨gm_32, ?_⟩
  refine List.forall_mem_cons.mpr ⟨gm_33, ?_⟩
  refine List.forall_mem_cons.mpr ⟨gm_34, ?_⟩
  refine List.forall_mem_cons.mpr ⟨gm_35, ?_⟩
  refine List.forall_mem_cons.mpr ⟨gm_36, ?_⟩
  refine List.forall_mem_cons.mpr ⟨gm_37, ?_⟩
  refine List.forall_mem_cons.mpr ⟨gm_38, ?_⟩
  refine List.forall_mem_cons.mpr ⟨gm_39, ?_⟩
  refine List.forall_mem_cons.mpr ⟨gm_40, ?_⟩
  refine List.forall_mem_cons.mpr ⟨gm_41, ?_⟩
  refine List.forall_mem_cons.mpr ⟨gm_42, ?_⟩
  refine List.forall_mem_cons.mpr ⟨gm_43, ?_⟩
  refine List.forall_mem_cons.mpr ⟨gm_44, ?_⟩
  refine List.forall_mem_cons.mpr ⟨gm_45, ?_⟩
  refine List.forall_mem_cons.mpr ⟨gm_46, ?_⟩
  refine List.forall_mem_cons.mpr ⟨gm_47, ?_⟩
  refine List.forall_mem_cons.mpr ⟨gm_48, ?_⟩
  refine List.forall_mem_cons.mpr ⟨gm_49, ?_⟩
  refine List.forall_mem_cons.mpr ⟨gm_50, ?_⟩
  refine List.forall_mem_cons.mpr ⟨gm_51, ?_⟩
  refine List.forall_mem_cons.mpr ⟨gm_52, ?_⟩
  refine List.forall_mem_cons.mpr ⟨gm_53, ?_⟩
  refine List.forall_mem_cons.mpr ⟨gm_54, ?_⟩
  refine List.forall_mem_cons.mpr ⟨gm_55, ?_⟩
  refine List.forall_mem_cons.mpr ⟨gm_56, ?_⟩
  refine List.forall_mem_cons.mpr ⟨gm_57, ?_⟩
  refine List.forall_mem_cons.mpr ⟨gm_58, ?_⟩
  refine List.forall_mem_cons.mpr ⟨gm_59, ?_⟩
  refine List.forall_mem_cons.mpr ⟨gm_60, ?_⟩
  refine List.forall_mem_cons.mpr ⟨gm_61, ?_⟩
  refine List.forall_mem_cons.mpr ⟨gm_62, ?_⟩
  refine List.forall_mem_cons.mpr ⟨gm_63, ?_⟩
  refine List.forall_mem_cons.mpr ⟨gm_64, ?_⟩
  refine List.forall_mem_cons.mpr ⟨gm_65, ?_⟩
  refine List.forall_mem_cons.mpr ⟨gm_66, ?_⟩
  refine List.forall_mem_cons.mpr ⟨gm_67, ?_⟩
  refine List.forall_mem_cons.mpr ⟨gm_68, ?_⟩
  refine List.forall_mem_cons.mpr ⟨gm_69, ?_⟩
  refine List.forall_mem_cons.mpr ⟨gm_70, ?_⟩
  refine List.forall_mem_cons.mpr ⟨gm_71, ?_⟩
  refine List.forall_mem_cons.mpr ⟨gm_72, ?_⟩
  refine List.forall_mem_cons.mpr ⟨gm_73, ?_⟩
  refine List.forall_mem_cons.mpr ⟨gm_74, ?_⟩
  refine List.forall_mem_cons.mpr ⟨gm_75, ?_⟩
  refine List.forall_mem_cons.mpr ⟨gm_76, ?_⟩
  refine List.forall_mem_cons.mpr ⟨gm_77, ?_⟩
  refine List.forall_mem_cons.mpr ⟨gm_78, ?_⟩
  refine List.forall_mem_cons.mpr ⟨gm_79, ?_⟩
  refine List.forall_mem_cons.mpr ⟨gm_80, ?_⟩
  refine List.forall_mem_cons.mpr ⟨gm_81, ?_⟩
  refine List.forall_mem_cons.mpr ⟨gm_82, ?_⟩
  refine List.forall_mem_cons.mpr ⟨gm_83, ?_⟩
  refine List.forall_mem_cons.mpr ⟨gm_84, ?_⟩
  refine List.forall_mem_cons.mpr ⟨gm_85, ?_⟩
  refine List.forall_mem_cons.mpr ⟨gm_86, ?_⟩
  refine List.forall_mem_cons.mpr ⟨gm_87, ?_⟩
  refine List.forall_mem_cons.mpr ⟨gm_88, ?_⟩
  refine List.forall_mem_cons.mpr ⟨gm_89, ?_⟩
  refine List.forall_mem_cons.mpr ⟨gm_90, ?_⟩
  refine List.forall_mem_cons.mpr ⟨gm_91, ?_⟩
  refine List.forall_mem_cons.mpr ⟨gm_92, ?_⟩
  refine List.forall_mem_cons.mpr ⟨gm_93 hL, ?_⟩
  refine List.forall_mem_cons.mpr ⟨gm_94, ?_⟩
  refine List.forall_mem_cons.mpr ⟨gm_95, ?_⟩
  refine List.forall_mem_cons.mpr ⟨gm_96 hL, ?_⟩
  exact fun _ h => absurd h List.not_mem_nil
theorem gm_no {L : Nat} {xs : Nat → Int32} : GM L xs md_no := ⟨fun _ h => absurd h List.not_mem_nil, Nat.zero_le _, by decide, Or.inl ⟨rfl, rfl⟩⟩
theorem gm_PP {L : Nat} {xs : Nat → Int32} (hL : L ≤ 260) (j : Nat) : GM L xs (PP L xs j) := by
  unfold PP
  rw [List.getD_eq_getElem?_getD]
  cases h : (mds L xs)[j]? with
  | none => exact gm_no
  | some md => exact gm_all hL md (List.mem_of_getElem? h)
theorem allS {L : Nat} {xs : Nat → Int32} (hL : L ≤ 260) : AllS (PP L xs) L xs := fun j pc f hf B b D aC p l e R s m args below meth c d c0 s0 Q X => (gm_PP hL j).1 _ (lk_mem hf) B b D aC p l e R s m args below meth c d c0 s0 Q X
theorem allM {L : Nat} {xs : Nat → Int32} (hL : L ≤ 260) : AllM (PP L xs) L xs := fun j => (gm_PP hL j).2
theorem runs {L : Nat} {xs : Nat → Int32} (hL : L ≤ 260) (n : Nat) : RunW (PP L xs) L xs n := run_W (allS hL) (allM hL) n
