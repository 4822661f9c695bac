/-! ===== sound, op by op (written by a program) ===== -/
set_option maxRecDepth 100000 in
set_option maxHeartbeats 4000000 in
theorem sj_18 {L : Nat} {xs : Nat → Int32} : ∀ q ∈ cd_18, SJ L xs (md_18) q := by
  refine List.forall_mem_cons.mpr ⟨fun _ _ _ _ _ _ _ _ _ _ _ _ _ _ _ _ _ _ X => so_iload_n (k := 2) X (by decide +kernel), ?_⟩
  refine List.forall_mem_cons.mpr ⟨fun _ _ _ _ _ _ _ _ _ _ _ _ _ _ _ _ _ _ X => so_istore (k := 4) X (by decide +kernel), ?_⟩
  refine List.forall_mem_cons.mpr ⟨fun _ _ _ _ _ _ _ _ _ _ _ _ _ _ _ _ _ _ X => so_iconst (n := 0) X (by decide +kernel), ?_⟩
  refine List.forall_mem_cons.mpr ⟨fun _ _ _ _ _ _ _ _ _ _ _ _ _ _ _ _ _ _ X => so_istore (k := 5) X (by decide +kernel), ?_⟩
  refine List.forall_mem_cons.mpr ⟨fun _ _ _ _ _ _ _ _ _ _ _ _ _ _ _ _ _ _ X => so_iload (k := 5) X (by decide +kernel), ?_⟩
  refine List.forall_mem_cons.mpr ⟨fun _ _ _ _ _ _ _ _ _ _ _ _ _ _ _ _ _ _ X => so_aload_n (k := 0) X (by decide +kernel), ?_⟩
  refine List.forall_mem_cons.mpr ⟨fun _ _ _ _ _ _ _ _ _ _ _ _ _ _ _ _ _ _ X => so_getIN (cn := 5) (k := 2) X rfl (by omega) wq_77 (fun _ _ => rfl) (by decide +kernel), ?_⟩
  refine List.forall_mem_cons.mpr ⟨fun _ _ _ _ _ _ _ _ _ _ _ _ _ _ _ _ _ _ X => so_icmp_ge (off := 57) (tgt := 69) X (by decide +kernel) (by decide), ?_⟩
  refine List.forall_mem_cons.mpr ⟨fun _ _ _ _ _ _ _ _ _ _ _ _ _ _ _ _ _ _ X => so_aload_n (k := 0) X (by decide +kernel), ?_⟩
  refine List.forall_mem_cons.mpr ⟨fun _ _ _ _ _ _ _ _ _ _ _ _ _ _ _ _ _ _ X => so_getRN (cn := 5) (k := 0) X rfl (by omega) wq_73 (fun _ _ => rfl) (by decide +kernel), ?_⟩
  refine List.forall_mem_cons.mpr ⟨fun _ _ _ _ _ _ _ _ _ _ _ _ _ _ _ _ _ _ X => so_iload (k := 5) X (by decide +kernel), ?_⟩
  refine List.forall_mem_cons.mpr ⟨fun _ _ _ _ _ _ _ _ _ _ _ _ _ _ _ _ _ _ X => so_iald X (by decide +kernel), ?_⟩
  refine List.forall_mem_cons.mpr ⟨fun _ _ _ _ _ _ _ _ _ _ _ _ _ _ _ _ _ _ X => so_iload_n (k := 1) X (by decide +kernel), ?_⟩
  refine List.forall_mem_cons.mpr ⟨fun _ _ _ _ _ _ _ _ _ _ _ _ _ _ _ _ _ _ X => so_callS (i := 19) (n := 2) X rfl wq_372 wq_373 wq_21 wd_19 wc_19 (by decide +kernel), ?_⟩
  refine List.forall_mem_cons.mpr ⟨fun _ _ _ _ _ _ _ _ _ _ _ _ _ _ _ _ _ _ X => so_istore (k := 6) X (by decide +kernel), ?_⟩
  refine List.forall_mem_cons.mpr ⟨fun _ _ _ _ _ _ _ _ _ _ _ _ _ _ _ _ _ _ X => so_iload (k := 6) X (by decide +kernel), ?_⟩
  refine List.forall_mem_cons.mpr ⟨fun _ _ _ _ _ _ _ _ _ _ _ _ _ _ _ _ _ _ X => so_iload (k := 4) X (by decide +kernel), ?_⟩
  refine List.forall_mem_cons.mpr ⟨fun _ _ _ _ _ _ _ _ _ _ _ _ _ _ _ _ _ _ X => so_icmp_le (off := 11) (tgt := 43) X (by decide +kernel) (by decide), ?_⟩
  refine List.forall_mem_cons.mpr ⟨fun _ _ _ _ _ _ _ _ _ _ _ _ _ _ _ _ _ _ X => so_iload (k := 6) X (by decide +kernel), ?_⟩
  refine List.forall_mem_cons.mpr ⟨fun _ _ _ _ _ _ _ _ _ _ _ _ _ _ _ _ _ _ X => so_istore (k := 4) X (by decide +kernel), ?_⟩
  refine List.forall_mem_cons.mpr ⟨fun _ _ _ _ _ _ _ _ _ _ _ _ _ _ _ _ _ _ X => so_aload_n (k := 3) X (by decide +kernel), ?_⟩
  refine List.forall_mem_cons.mpr ⟨fun _ _ _ _ _ _ _ _ _ _ _ _ _ _ _ _ _ _ X => so_callS (i := 20) (n := 1) X rfl wq_366 wq_367 wq_21 wd_20 wc_20 (by decide +kernel), ?_⟩
  refine List.forall_mem_cons.mpr ⟨fun _ _ _ _ _ _ _ _ _ _ _ _ _ _ _ _ _ _ X => so_iload (k := 6) X (by decide +kernel), ?_⟩
  refine List.forall_mem_cons.mpr ⟨fun _ _ _ _ _ _ _ _ _ _ _ _ _ _ _ _ _ _ X => so_iload (k := 4) X (by decide +kernel), ?_⟩
  refine List.forall_mem_cons.mpr ⟨fun _ _ _ _ _ _ _ _ _ _ _ _ _ _ _ _ _ _ X => so_icmp_ne (off := 16) (tgt := 63) X (by decide +kernel) (by decide), ?_⟩
  refine List.forall_mem_cons.mpr ⟨fun _ _ _ _ _ _ _ _ _ _ _ _ _ _ _ _ _ _ X => so_aload_n (k := 3) X (by decide +kernel), ?_⟩
  refine List.forall_mem_cons.mpr ⟨fun _ _ _ _ _ _ _ _ _ _ _ _ _ _ _ _ _ _ X => so_aload_n (k := 0) X (by decide +kernel), ?_⟩
  refine List.forall_mem_cons.mpr ⟨fun _ _ _ _ _ _ _ _ _ _ _ _ _ _ _ _ _ _ X => so_getRN (cn := 5) (k := 1) X rfl (by omega) wq_75 (fun _ _ => rfl) (by decide +kernel), ?_⟩
  refine List.forall_mem_cons.mpr ⟨fun _ _ _ _ _ _ _ _ _ _ _ _ _ _ _ _ _ _ X => so_iload (k := 5) X (by decide +kernel), ?_⟩
  refine List.forall_mem_cons.mpr ⟨fun _ _ _ _ _ _ _ _ _ _ _ _ _ _ _ _ _ _ X => so_iald X (by decide +kernel), ?_⟩
  refine List.forall_mem_cons.mpr ⟨fun _ _ _ _ _ _ _ _ _ _ _ _ _ _ _ _ _ _ X => so_dup2 X (by decide +kernel), ?_⟩
  refine List.forall_mem_cons.mpr ⟨fun _ _ _ _ _ _ _ _ _ _ _ _ _ _ _ _ _ _ X => so_iald X (by decide +kernel), ?_⟩
  refine List.forall_mem_cons.mpr ⟨fun _ _ _ _ _ _ _ _ _ _ _ _ _ _ _ _ _ _ X => so_iconst (n := 1) X (by decide +kernel), ?_⟩
  refine List.forall_mem_cons.mpr ⟨fun _ _ _ _ _ _ _ _ _ _ _ _ _ _ _ _ _ _ X => so_iadd X (by decide +kernel), ?_⟩
  refine List.forall_mem_cons.mpr ⟨fun _ _ _ _ _ _ _ _ _ _ _ _ _ _ _ _ _ _ X => so_iast X (by decide +kernel), ?_⟩
  refine List.forall_mem_cons.mpr ⟨fun _ _ _ _ _ _ _ _ _ _ _ _ _ _ _ _ _ _ X => so_iinc (k := 5) (n := 1) X (by decide +kernel), ?_⟩
  refine List.forall_mem_cons.mpr ⟨fun _ _ _ _ _ _ _ _ _ _ _ _ _ _ _ _ _ _ X => so_goto (off := -60) (tgt := 6) X (by decide +kernel) (by decide), ?_⟩
  refine List.forall_mem_cons.mpr ⟨fun _ _ _ _ _ _ _ _ _ _ _ _ _ _ _ _ _ _ X => so_iload (k := 4) X (by decide +kernel), ?_⟩
  refine List.forall_mem_cons.mpr ⟨fun _ _ _ _ _ _ _ _ _ _ _ _ _ _ _ _ _ _ X => so_iret X rfl (by decide +kernel), ?_⟩
  exact fun _ h => absurd h List.not_mem_nil
set_option maxRecDepth 100000 in
set_option maxHeartbeats 4000000 in
theorem sj_19 {L : Nat} {xs : Nat → Int32} : ∀ q ∈ cd_19, SJ L xs (md_19) q := by
  refine List.forall_mem_cons.mpr ⟨fun _ _ _ _ _ _ _ _ _ _ _ _ _ _ _ _ _ _ X => so_iload_n (k := 0) X (by decide +kernel), ?_⟩
  refine List.forall_mem_cons.mpr ⟨fun _ _ _ _ _ _ _ _ _ _ _ _ _ _ _ _ _ _ X => so_iload_n (k := 1) X (by decide +kernel), ?_⟩
  refine List.forall_mem_cons.mpr ⟨fun _ _ _ _ _ _ _ _ _ _ _ _ _ _ _ _ _ _ X => so_icmp_ne (off := 5) (tgt := 7) X (by decide +kernel) (by decide), ?_⟩
  refine List.forall_mem_cons.mpr ⟨fun _ _ _ _ _ _ _ _ _ _ _ _ _ _ _ _ _ _ X => so_iconst (n := 4) X (by decide +kernel), ?_⟩
  refine List.forall_mem_cons.mpr ⟨fun _ _ _ _ _ _ _ _ _ _ _ _ _ _ _ _ _ _ X => so_iret X rfl (by decide +kernel), ?_⟩
  refine List.forall_mem_cons.mpr ⟨fun _ _ _ _ _ _ _ _ _ _ _ _ _ _ _ _ _ _ X => so_iconst (n := 0) X (by decide +kernel), ?_⟩
  refine List.forall_mem_cons.mpr ⟨fun _ _ _ _ _ _ _ _ _ _ _ _ _ _ _ _ _ _ X => so_istore_n (k := 2) X (by decide +kernel), ?_⟩
  refine List.forall_mem_cons.mpr ⟨fun _ _ _ _ _ _ _ _ _ _ _ _ _ _ _ _ _ _ X => so_bipush (n := 31) X (by decide +kernel) (by decide +kernel), ?_⟩
  refine List.forall_mem_cons.mpr ⟨fun _ _ _ _ _ _ _ _ _ _ _ _ _ _ _ _ _ _ X => so_istore_n (k := 3) X (by decide +kernel), ?_⟩
  refine List.forall_mem_cons.mpr ⟨fun _ _ _ _ _ _ _ _ _ _ _ _ _ _ _ _ _ _ X => so_iload_n (k := 2) X (by decide +kernel), ?_⟩
  refine List.forall_mem_cons.mpr ⟨fun _ _ _ _ _ _ _ _ _ _ _ _ _ _ _ _ _ _ X => so_iconst (n := 3) X (by decide +kernel), ?_⟩
  refine List.forall_mem_cons.mpr ⟨fun _ _ _ _ _ _ _ _ _ _ _ _ _ _ _ _ _ _ X => so_icmp_ge (off := 22) (tgt := 36) X (by decide +kernel) (by decide), ?_⟩
  refine List.forall_mem_cons.mpr ⟨fun _ _ _ _ _ _ _ _ _ _ _ _ _ _ _ _ _ _ X => so_iload_n (k := 0) X (by decide +kernel), ?_⟩
  refine List.forall_mem_cons.mpr ⟨fun _ _ _ _ _ _ _ _ _ _ _ _ _ _ _ _ _ _ X => so_iload_n (k := 3) X (by decide +kernel), ?_⟩
  refine List.forall_mem_cons.mpr ⟨fun _ _ _ _ _ _ _ _ _ _ _ _ _ _ _ _ _ _ X => so_iand X (by decide +kernel), ?_⟩
  refine List.forall_mem_cons.mpr ⟨fun _ _ _ _ _ _ _ _ _ _ _ _ _ _ _ _ _ _ X => so_iload_n (k := 1) X (by decide +kernel), ?_⟩
  refine List.forall_mem_cons.mpr ⟨fun _ _ _ _ _ _ _ _ _ _ _ _ _ _ _ _ _ _ X => so_iload_n (k := 3) X (by decide +kernel), ?_⟩
  refine List.forall_mem_cons.mpr ⟨fun _ _ _ _ _ _ _ _ _ _ _ _ _ _ _ _ _ _ X => so_iand X (by decide +kernel), ?_⟩
  refine List.forall_mem_cons.mpr ⟨fun _ _ _ _ _ _ _ _ _ _ _ _ _ _ _ _ _ _ X => so_icmp_ne (off := 13) (tgt := 36) X (by decide +kernel) (by decide), ?_⟩
  refine List.forall_mem_cons.mpr ⟨fun _ _ _ _ _ _ _ _ _ _ _ _ _ _ _ _ _ _ X => so_iinc (k := 2) (n := 1) X (by decide +kernel), ?_⟩
  refine List.forall_mem_cons.mpr ⟨fun _ _ _ _ _ _ _ _ _ _ _ _ _ _ _ _ _ _ X => so_iload_n (k := 3) X (by decide +kernel), ?_⟩
  refine List.forall_mem_cons.mpr ⟨fun _ _ _ _ _ _ _ _ _ _ _ _ _ _ _ _ _ _ X => so_iconst (n := 5) X (by decide +kernel), ?_⟩
  refine List.forall_mem_cons.mpr ⟨fun _ _ _ _ _ _ _ _ _ _ _ _ _ _ _ _ _ _ X => so_ishl X (by decide +kernel), ?_⟩
  refine List.forall_mem_cons.mpr ⟨fun _ _ _ _ _ _ _ _ _ _ _ _ _ _ _ _ _ _ X => so_istore_n (k := 3) X (by decide +kernel), ?_⟩
  refine List.forall_mem_cons.mpr ⟨fun _ _ _ _ _ _ _ _ _ _ _ _ _ _ _ _ _ _ X => so_goto (off := -21) (tgt := 12) X (by decide +kernel) (by decide), ?_⟩
  refine List.forall_mem_cons.mpr ⟨fun _ _ _ _ _ _ _ _ _ _ _ _ _ _ _ _ _ _ X => so_iload_n (k := 2) X (by decide +kernel), ?_⟩
  refine List.forall_mem_cons.mpr ⟨fun _ _ _ _ _ _ _ _ _ _ _ _ _ _ _ _ _ _ X => so_iret X rfl (by decide +kernel), ?_⟩
  exact fun _ h => absurd h List.not_mem_nil
set_option maxRecDepth 100000 in
set_option maxHeartbeats 4000000 in
theorem sj_20 {L : Nat} {xs : Nat → Int32} : ∀ q ∈ cd_20, SJ L xs (md_20) q := by
  refine List.forall_mem_cons.mpr ⟨fun _ _ _ _ _ _ _ _ _ _ _ _ _ _ _ _ _ _ X => so_iconst (n := 0) X (by decide +kernel), ?_⟩
  refine List.forall_mem_cons.mpr ⟨fun _ _ _ _ _ _ _ _ _ _ _ _ _ _ _ _ _ _ X => so_istore_n (k := 1) X (by decide +kernel), ?_⟩
  refine List.forall_mem_cons.mpr ⟨fun _ _ _ _ _ _ _ _ _ _ _ _ _ _ _ _ _ _ X => so_iload_n (k := 1) X (by decide +kernel), ?_⟩
  refine List.forall_mem_cons.mpr ⟨fun _ _ _ _ _ _ _ _ _ _ _ _ _ _ _ _ _ _ X => so_iconst (n := 5) X (by decide +kernel), ?_⟩
  refine List.forall_mem_cons.mpr ⟨fun _ _ _ _ _ _ _ _ _ _ _ _ _ _ _ _ _ _ X => so_icmp_ge (off := 13) (tgt := 17) X (by decide +kernel) (by decide), ?_⟩
  refine List.forall_mem_cons.mpr ⟨fun _ _ _ _ _ _ _ _ _ _ _ _ _ _ _ _ _ _ X => so_aload_n (k := 0) X (by decide +kernel), ?_⟩
  refine List.forall_mem_cons.mpr ⟨fun _ _ _ _ _ _ _ _ _ _ _ _ _ _ _ _ _ _ X => so_iload_n (k := 1) X (by decide +kernel), ?_⟩
  refine List.forall_mem_cons.mpr ⟨fun _ _ _ _ _ _ _ _ _ _ _ _ _ _ _ _ _ _ X => so_iconst (n := 0) X (by decide +kernel), ?_⟩
  refine List.forall_mem_cons.mpr ⟨fun _ _ _ _ _ _ _ _ _ _ _ _ _ _ _ _ _ _ X => so_iast X (by decide +kernel), ?_⟩
  refine List.forall_mem_cons.mpr ⟨fun _ _ _ _ _ _ _ _ _ _ _ _ _ _ _ _ _ _ X => so_iinc (k := 1) (n := 1) X (by decide +kernel), ?_⟩
  refine List.forall_mem_cons.mpr ⟨fun _ _ _ _ _ _ _ _ _ _ _ _ _ _ _ _ _ _ X => so_goto (off := -12) (tgt := 2) X (by decide +kernel) (by decide), ?_⟩
  refine List.forall_mem_cons.mpr ⟨fun _ _ _ _ _ _ _ _ _ _ _ _ _ _ _ _ _ _ X => so_vret X rfl (by decide +kernel), ?_⟩
  exact fun _ h => absurd h List.not_mem_nil
set_option maxRecDepth 100000 in
set_option maxHeartbeats 4000000 in
theorem sj_21 {L : Nat} {xs : Nat → Int32} : ∀ q ∈ cd_21, SJ L xs (md_21) q := by
  refine List.forall_mem_cons.mpr ⟨fun _ _ _ _ _ _ _ _ _ _ _ _ _ _ _ _ _ _ X => so_aload_n (k := 0) X (by decide +kernel), ?_⟩
  refine List.forall_mem_cons.mpr ⟨fun _ _ _ _ _ _ _ _ _ _ _ _ _ _ _ _ _ _ X => so_objinit X wq_126 wq_42 wq_objinit (by decide +kernel), ?_⟩
  refine List.forall_mem_cons.mpr ⟨fun _ _ _ _ _ _ _ _ _ _ _ _ _ _ _ _ _ _ X => so_aload_n (k := 0) X (by decide +kernel), ?_⟩
  refine List.forall_mem_cons.mpr ⟨fun _ _ _ _ _ _ _ _ _ _ _ _ _ _ _ _ _ _ X => so_iconst (n := 5) X (by decide +kernel), ?_⟩
  refine List.forall_mem_cons.mpr ⟨fun _ _ _ _ _ _ _ _ _ _ _ _ _ _ _ _ _ _ X => so_iconst (n := 5) X (by decide +kernel), ?_⟩
  refine List.forall_mem_cons.mpr ⟨fun _ _ _ _ _ _ _ _ _ _ _ _ _ _ _ _ _ _ X => so_mna_i X wq_127 (by decide +kernel), ?_⟩
  refine List.forall_mem_cons.mpr ⟨fun _ _ _ _ _ _ _ _ _ _ _ _ _ _ _ _ _ _ X => so_putR (cn := 2) (k := 2) X rfl (by omega) wq_130 rfl rfl rfl (by first | exact Or.inl ⟨_, rfl⟩ | exact Or.inr ⟨_, rfl⟩) (by decide +kernel), ?_⟩
  refine List.forall_mem_cons.mpr ⟨fun _ _ _ _ _ _ _ _ _ _ _ _ _ _ _ _ _ _ X => so_aload_n (k := 0) X (by decide +kernel), ?_⟩
  refine List.forall_mem_cons.mpr ⟨fun _ _ _ _ _ _ _ _ _ _ _ _ _ _ _ _ _ _ X => so_bipush (n := 6) X (by decide +kernel) (by decide +kernel), ?_⟩
  refine List.forall_mem_cons.mpr ⟨fun _ _ _ _ _ _ _ _ _ _ _ _ _ _ _ _ _ _ X => so_iconst (n := 5) X (by decide +kernel), ?_⟩
  refine List.forall_mem_cons.mpr ⟨fun _ _ _ _ _ _ _ _ _ _ _ _ _ _ _ _ _ _ X => so_mna_i X wq_127 (by decide +kernel), ?_⟩
  refine List.forall_mem_cons.mpr ⟨fun _ _ _ _ _ _ _ _ _ _ _ _ _ _ _ _ _ _ X => so_putR (cn := 2) (k := 3) X rfl (by omega) wq_131 rfl rfl rfl (by first | exact Or.inl ⟨_, rfl⟩ | exact Or.inr ⟨_, rfl⟩) (by decide +kernel), ?_⟩
  refine List.forall_mem_cons.mpr ⟨fun _ _ _ _ _ _ _ _ _ _ _ _ _ _ _ _ _ _ X => so_aload_n (k := 0) X (by decide +kernel), ?_⟩
  refine List.forall_mem_cons.mpr ⟨fun _ _ _ _ _ _ _ _ _ _ _ _ _ _ _ _ _ _ X => so_aload_n (k := 1) X (by decide +kernel), ?_⟩
  refine List.forall_mem_cons.mpr ⟨fun _ _ _ _ _ _ _ _ _ _ _ _ _ _ _ _ _ _ X => so_putR (cn := 2) (k := 0) X rfl (by omega) wq_128 rfl rfl rfl (by first | exact Or.inl ⟨_, rfl⟩ | exact Or.inr ⟨_, rfl⟩) (by decide +kernel), ?_⟩
  refine List.forall_mem_cons.mpr ⟨fun _ _ _ _ _ _ _ _ _ _ _ _ _ _ _ _ _ _ X => so_aload_n (k := 0) X (by decide +kernel), ?_⟩
  refine List.forall_mem_cons.mpr ⟨fun _ _ _ _ _ _ _ _ _ _ _ _ _ _ _ _ _ _ X => so_aload_n (k := 2) X (by decide +kernel), ?_⟩
  refine List.forall_mem_cons.mpr ⟨fun _ _ _ _ _ _ _ _ _ _ _ _ _ _ _ _ _ _ X => so_putR (cn := 2) (k := 1) X rfl (by omega) wq_129 rfl rfl rfl (by first | exact Or.inl ⟨_, rfl⟩ | exact Or.inr ⟨_, rfl⟩) (by decide +kernel), ?_⟩
  refine List.forall_mem_cons.mpr ⟨fun _ _ _ _ _ _ _ _ _ _ _ _ _ _ _ _ _ _ X => so_vret X rfl (by decide +kernel), ?_⟩
  exact fun _ h => absurd h List.not_mem_nil
set_option maxRecDepth 100000 in
set_option maxHeartbeats 4000000 in
theorem sj_22 {L : Nat} {xs : Nat → Int32} : ∀ q ∈ cd_22, SJ L xs (md_22) q := by
  refine List.forall_mem_cons.mpr ⟨fun _ _ _ _ _ _ _ _ _ _ _ _ _ _ _ _ _ _ X => so_aload_n (k := 0) X (by decide +kernel), ?_⟩
  refine List.forall_mem_cons.mpr ⟨fun _ _ _ _ _ _ _ _ _ _ _ _ _ _ _ _ _ _ X => so_getR (cn := 2) (k := 1) X rfl (by omega) wq_129 (fun _ _ => rfl) (by decide +kernel), ?_⟩
  refine List.forall_mem_cons.mpr ⟨fun _ _ _ _ _ _ _ _ _ _ _ _ _ _ _ _ _ _ X => so_callV (i := 37) (cn := 4) (n := 0) X rfl rfl rfl wq_357 wq_320 wq_321 wq_23 wd_37 wc_37 (by decide +kernel), ?_⟩
  refine List.forall_mem_cons.mpr ⟨fun _ _ _ _ _ _ _ _ _ _ _ _ _ _ _ _ _ _ X => so_iret X rfl (by decide +kernel), ?_⟩
  exact fun _ h => absurd h List.not_mem_nil
set_option maxRecDepth 100000 in
set_option maxHeartbeats 4000000 in
theorem sj_23 {L : Nat} {xs : Nat → Int32} : ∀ q ∈ cd_23, SJ L xs (md_23) q := by
  refine List.forall_mem_cons.mpr ⟨fun _ _ _ _ _ _ _ _ _ _ _ _ _ _ _ _ _ _ X => so_iconst (n := 0) X (by decide +kernel), ?_⟩
  refine List.forall_mem_cons.mpr ⟨fun _ _ _ _ _ _ _ _ _ _ _ _ _ _ _ _ _ _ X => so_istore_n (k := 1) X (by decide +kernel), ?_⟩
  refine List.forall_mem_cons.mpr ⟨fun _ _ _ _ _ _ _ _ _ _ _ _ _ _ _ _ _ _ X => so_iload_n (k := 1) X (by decide +kernel), ?_⟩
  refine List.forall_mem_cons.mpr ⟨fun _ _ _ _ _ _ _ _ _ _ _ _ _ _ _ _ _ _ X => so_iconst (n := 5) X (by decide +kernel), ?_⟩
  refine List.forall_mem_cons.mpr ⟨fun _ _ _ _ _ _ _ _ _ _ _ _ _ _ _ _ _ _ X => so_icmp_ge (off := 41) (tgt := 45) X (by decide +kernel) (by decide), ?_⟩
  refine List.forall_mem_cons.mpr ⟨fun _ _ _ _ _ _ _ _ _ _ _ _ _ _ _ _ _ _ X => so_iconst (n := (-1)) X (by decide +kernel), ?_⟩
  refine List.forall_mem_cons.mpr ⟨fun _ _ _ _ _ _ _ _ _ _ _ _ _ _ _ _ _ _ X => so_istore_n (k := 2) X (by decide +kernel), ?_⟩
  refine List.forall_mem_cons.mpr ⟨fun _ _ _ _ _ _ _ _ _ _ _ _ _ _ _ _ _ _ X => so_iload_n (k := 2) X (by decide +kernel), ?_⟩
  refine List.forall_mem_cons.mpr ⟨fun _ _ _ _ _ _ _ _ _ _ _ _ _ _ _ _ _ _ X => so_iconst (n := 5) X (by decide +kernel), ?_⟩
  refine List.forall_mem_cons.mpr ⟨fun _ _ _ _ _ _ _ _ _ _ _ _ _ _ _ _ _ _ X => so_icmp_ge (off := 28) (tgt := 39) X (by decide +kernel) (by decide), ?_⟩
  refine List.forall_mem_cons.mpr ⟨fun _ _ _ _ _ _ _ _ _ _ _ _ _ _ _ _ _ _ X => so_aload_n (k := 0) X (by decide +kernel), ?_⟩
  refine List.forall_mem_cons.mpr ⟨fun _ _ _ _ _ _ _ _ _ _ _ _ _ _ _ _ _ _ X => so_getR (cn := 2) (k := 3) X rfl (by omega) wq_131 (fun _ _ => rfl) (by decide +kernel), ?_⟩
  refine List.forall_mem_cons.mpr ⟨fun _ _ _ _ _ _ _ _ _ _ _ _ _ _ _ _ _ _ X => so_iload_n (k := 2) X (by decide +kernel), ?_⟩
  refine List.forall_mem_cons.mpr ⟨fun _ _ _ _ _ _ _ _ _ _ _ _ _ _ _ _ _ _ X => so_iconst (n := 1) X (by decide +kernel), ?_⟩
  refine List.forall_mem_cons.mpr ⟨fun _ _ _ _ _ _ _ _ _ _ _ _ _ _ _ _ _ _ X => so_iadd X (by decide +kernel), ?_⟩
  refine List.forall_mem_cons.mpr ⟨fun _ _ _ _ _ _ _ _ _ _ _ _ _ _ _ _ _ _ X => so_aald (t := 4) X (by omega) (by omega) (by decide +kernel), ?_⟩
  refine List.forall_mem_cons.mpr ⟨fun _ _ _ _ _ _ _ _ _ _ _ _ _ _ _ _ _ _ X => so_iload_n (k := 1) X (by decide +kernel), ?_⟩
  refine List.forall_mem_cons.mpr ⟨fun _ _ _ _ _ _ _ _ _ _ _ _ _ _ _ _ _ _ X => so_aload_n (k := 0) X (by decide +kernel), ?_⟩
  refine List.forall_mem_cons.mpr ⟨fun _ _ _ _ _ _ _ _ _ _ _ _ _ _ _ _ _ _ X => so_getR (cn := 2) (k := 0) X rfl (by omega) wq_128 (fun _ _ => rfl) (by decide +kernel), ?_⟩
  refine List.forall_mem_cons.mpr ⟨fun _ _ _ _ _ _ _ _ _ _ _ _ _ _ _ _ _ _ X => so_iload_n (k := 2) X (by decide +kernel), ?_⟩
  refine List.forall_mem_cons.mpr ⟨fun _ _ _ _ _ _ _ _ _ _ _ _ _ _ _ _ _ _ X => so_iload_n (k := 1) X (by decide +kernel), ?_⟩
  refine List.forall_mem_cons.mpr ⟨fun _ _ _ _ _ _ _ _ _ _ _ _ _ _ _ _ _ _ X => so_callV (i := 15) (cn := 1) (n := 2) X rfl rfl rfl wq_347 wq_348 wq_349 wq_21 wd_15 wc_15 (by decide +kernel), ?_⟩
  refine List.forall_mem_cons.mpr ⟨fun _ _ _ _ _ _ _ _ _ _ _ _ _ _ _ _ _ _ X => so_iast X (by decide +kernel), ?_⟩
  refine List.forall_mem_cons.mpr ⟨fun _ _ _ _ _ _ _ _ _ _ _ _ _ _ _ _ _ _ X => so_iinc (k := 2) (n := 1) X (by decide +kernel), ?_⟩
  refine List.forall_mem_cons.mpr ⟨fun _ _ _ _ _ _ _ _ _ _ _ _ _ _ _ _ _ _ X => so_goto (off := -27) (tgt := 9) X (by decide +kernel) (by decide), ?_⟩
  refine List.forall_mem_cons.mpr ⟨fun _ _ _ _ _ _ _ _ _ _ _ _ _ _ _ _ _ _ X => so_iinc (k := 1) (n := 1) X (by decide +kernel), ?_⟩
  refine List.forall_mem_cons.mpr ⟨fun _ _ _ _ _ _ _ _ _ _ _ _ _ _ _ _ _ _ X => so_goto (off := -40) (tgt := 2) X (by decide +kernel) (by decide), ?_⟩
  refine List.forall_mem_cons.mpr ⟨fun _ _ _ _ _ _ _ _ _ _ _ _ _ _ _ _ _ _ X => so_iconst (n := 0) X (by decide +kernel), ?_⟩
  refine List.forall_mem_cons.mpr ⟨fun _ _ _ _ _ _ _ _ _ _ _ _ _ _ _ _ _ _ X => so_istore_n (k := 1) X (by decide +kernel), ?_⟩
  refine List.forall_mem_cons.mpr ⟨fun _ _ _ _ _ _ _ _ _ _ _ _ _ _ _ _ _ _ X => so_iload_n (k := 1) X (by decide +kernel), ?_⟩
  refine List.forall_mem_cons.mpr ⟨fun _ _ _ _ _ _ _ _ _ _ _ _ _ _ _ _ _ _ X => so_aload_n (k := 0) X (by decide +kernel), ?_⟩
  refine List.forall_mem_cons.mpr ⟨fun _ _ _ _ _ _ _ _ _ _ _ _ _ _ _ _ _ _ X => so_getR (cn := 2) (k := 1) X rfl (by omega) wq_129 (fun _ _ => rfl) (by decide +kernel), ?_⟩
  refine List.forall_mem_cons.mpr ⟨fun _ _ _ _ _ _ _ _ _ _ _ _ _ _ _ _ _ _ X => so_callV (i := 37) (cn := 4) (n := 0) X rfl rfl rfl wq_357 wq_320 wq_321 wq_23 wd_37 wc_37 (by decide +kernel), ?_⟩
  refine List.forall_mem_cons.mpr ⟨fun _ _ _ _ _ _ _ _ _ _ _ _ _ _ _ _ _ _ X => so_icmp_ge (off := 35) (tgt := 90) X (by decide +kernel) (by decide), ?_⟩
  refine List.forall_mem_cons.mpr ⟨fun _ _ _ _ _ _ _ _ _ _ _ _ _ _ _ _ _ _ X => so_aload_n (k := 0) X (by decide +kernel), ?_⟩
  refine List.forall_mem_cons.mpr ⟨fun _ _ _ _ _ _ _ _ _ _ _ _ _ _ _ _ _ _ X => so_getR (cn := 2) (k := 0) X rfl (by omega) wq_128 (fun _ _ => rfl) (by decide +kernel), ?_⟩
  refine List.forall_mem_cons.mpr ⟨fun _ _ _ _ _ _ _ _ _ _ _ _ _ _ _ _ _ _ X => so_aload_n (k := 0) X (by decide +kernel), ?_⟩
  refine List.forall_mem_cons.mpr ⟨fun _ _ _ _ _ _ _ _ _ _ _ _ _ _ _ _ _ _ X => so_getR (cn := 2) (k := 1) X rfl (by omega) wq_129 (fun _ _ => rfl) (by decide +kernel), ?_⟩
  refine List.forall_mem_cons.mpr ⟨fun _ _ _ _ _ _ _ _ _ _ _ _ _ _ _ _ _ _ X => so_iload_n (k := 1) X (by decide +kernel), ?_⟩
  refine List.forall_mem_cons.mpr ⟨fun _ _ _ _ _ _ _ _ _ _ _ _ _ _ _ _ _ _ X => so_callV (i := 41) (cn := 4) (n := 1) X rfl rfl rfl wq_358 wq_359 wq_360 wq_23 wd_41 wc_41 (by decide +kernel), ?_⟩
  refine List.forall_mem_cons.mpr ⟨fun _ _ _ _ _ _ _ _ _ _ _ _ _ _ _ _ _ _ X => so_aload_n (k := 0) X (by decide +kernel), ?_⟩
  refine List.forall_mem_cons.mpr ⟨fun _ _ _ _ _ _ _ _ _ _ _ _ _ _ _ _ _ _ X => so_getR (cn := 2) (k := 2) X rfl (by omega) wq_130 (fun _ _ => rfl) (by decide +kernel), ?_⟩
  refine List.forall_mem_cons.mpr ⟨fun _ _ _ _ _ _ _ _ _ _ _ _ _ _ _ _ _ _ X => so_iload_n (k := 1) X (by decide +kernel), ?_⟩
  refine List.forall_mem_cons.mpr ⟨fun _ _ _ _ _ _ _ _ _ _ _ _ _ _ _ _ _ _ X => so_aald (t := 4) X (by omega) (by omega) (by decide +kernel), ?_⟩
  refine List.forall_mem_cons.mpr ⟨fun _ _ _ _ _ _ _ _ _ _ _ _ _ _ _ _ _ _ X => so_callV (i := 16) (cn := 1) (n := 2) X rfl rfl rfl wq_362 wq_363 wq_364 wq_21 wd_16 wc_16 (by decide +kernel), ?_⟩
  refine List.forall_mem_cons.mpr ⟨fun _ _ _ _ _ _ _ _ _ _ _ _ _ _ _ _ _ _ X => so_aload_n (k := 0) X (by decide +kernel), ?_⟩
  refine List.forall_mem_cons.mpr ⟨fun _ _ _ _ _ _ _ _ _ _ _ _ _ _ _ _ _ _ X => so_iload_n (k := 1) X (by decide +kernel), ?_⟩
  refine List.forall_mem_cons.mpr ⟨fun _ _ _ _ _ _ _ _ _ _ _ _ _ _ _ _ _ _ X => so_callV (i := 24) (cn := 2) (n := 1) X rfl rfl rfl wq_378 wq_380 ws_X2_ruleOut wq_24 wd_24 wc_24 (by decide +kernel), ?_⟩
  refine List.forall_mem_cons.mpr ⟨fun _ _ _ _ _ _ _ _ _ _ _ _ _ _ _ _ _ _ X => so_iinc (k := 1) (n := 1) X (by decide +kernel), ?_⟩
  refine List.forall_mem_cons.mpr ⟨fun _ _ _ _ _ _ _ _ _ _ _ _ _ _ _ _ _ _ X => so_goto (off := -40) (tgt := 47) X (by decide +kernel) (by decide), ?_⟩
  refine List.forall_mem_cons.mpr ⟨fun _ _ _ _ _ _ _ _ _ _ _ _ _ _ _ _ _ _ X => so_vret X rfl (by decide +kernel), ?_⟩
  exact fun _ h => absurd h List.not_mem_nil
set_option maxRecDepth 100000 in
set_option maxHeartbeats 4000000 in
theorem sj_24 {L : Nat} {xs : Nat → Int32} : ∀ q ∈ cd_24, SJ L xs (md_24) q := by
  refine List.forall_mem_cons.mpr ⟨fun _ _ _ _ _ _ _ _ _ _ _ _ _ _ _ _ _ _ X => so_iconst (n := 0) X (by decide +kernel), ?_⟩
  refine List.forall_mem_cons.mpr ⟨fun _ _ _ _ _ _ _ _ _ _ _ _ _ _ _ _ _ _ X => so_istore_n (k := 2) X (by decide +kernel), ?_⟩
  refine List.forall_mem_cons.mpr ⟨fun _ _ _ _ _ _ _ _ _ _ _ _ _ _ _ _ _ _ X => so_iload_n (k := 2) X (by decide +kernel), ?_⟩
  refine List.forall_mem_cons.mpr ⟨fun _ _ _ _ _ _ _ _ _ _ _ _ _ _ _ _ _ _ X => so_iconst (n := 5) X (by decide +kernel), ?_⟩
  refine List.forall_mem_cons.mpr ⟨fun _ _ _ _ _ _ _ _ _ _ _ _ _ _ _ _ _ _ X => so_icmp_ge (off := 30) (tgt := 34) X (by decide +kernel) (by decide), ?_⟩
  refine List.forall_mem_cons.mpr ⟨fun _ _ _ _ _ _ _ _ _ _ _ _ _ _ _ _ _ _ X => so_aload_n (k := 0) X (by decide +kernel), ?_⟩
  refine List.forall_mem_cons.mpr ⟨fun _ _ _ _ _ _ _ _ _ _ _ _ _ _ _ _ _ _ X => so_getR (cn := 2) (k := 1) X rfl (by omega) wq_129 (fun _ _ => rfl) (by decide +kernel), ?_⟩
  refine List.forall_mem_cons.mpr ⟨fun _ _ _ _ _ _ _ _ _ _ _ _ _ _ _ _ _ _ X => so_iload_n (k := 1) X (by decide +kernel), ?_⟩
  refine List.forall_mem_cons.mpr ⟨fun _ _ _ _ _ _ _ _ _ _ _ _ _ _ _ _ _ _ X => so_iload_n (k := 2) X (by decide +kernel), ?_⟩
  refine List.forall_mem_cons.mpr ⟨fun _ _ _ _ _ _ _ _ _ _ _ _ _ _ _ _ _ _ X => so_callV (i := 43) (cn := 4) (n := 2) X rfl rfl rfl wq_382 wq_383 wq_384 wq_23 wd_43 wc_43 (by decide +kernel), ?_⟩
  refine List.forall_mem_cons.mpr ⟨fun _ _ _ _ _ _ _ _ _ _ _ _ _ _ _ _ _ _ X => so_if_ne (off := 12) (tgt := 28) X (by decide +kernel) (by decide), ?_⟩
  refine List.forall_mem_cons.mpr ⟨fun _ _ _ _ _ _ _ _ _ _ _ _ _ _ _ _ _ _ X => so_aload_n (k := 0) X (by decide +kernel), ?_⟩
  refine List.forall_mem_cons.mpr ⟨fun _ _ _ _ _ _ _ _ _ _ _ _ _ _ _ _ _ _ X => so_getR (cn := 2) (k := 2) X rfl (by omega) wq_130 (fun _ _ => rfl) (by decide +kernel), ?_⟩
  refine List.forall_mem_cons.mpr ⟨fun _ _ _ _ _ _ _ _ _ _ _ _ _ _ _ _ _ _ X => so_iload_n (k := 1) X (by decide +kernel), ?_⟩
  refine List.forall_mem_cons.mpr ⟨fun _ _ _ _ _ _ _ _ _ _ _ _ _ _ _ _ _ _ X => so_aald (t := 4) X (by omega) (by omega) (by decide +kernel), ?_⟩
  refine List.forall_mem_cons.mpr ⟨fun _ _ _ _ _ _ _ _ _ _ _ _ _ _ _ _ _ _ X => so_iload_n (k := 2) X (by decide +kernel), ?_⟩
  refine List.forall_mem_cons.mpr ⟨fun _ _ _ _ _ _ _ _ _ _ _ _ _ _ _ _ _ _ X => so_iconst (n := 0) X (by decide +kernel), ?_⟩
  refine List.forall_mem_cons.mpr ⟨fun _ _ _ _ _ _ _ _ _ _ _ _ _ _ _ _ _ _ X => so_iast X (by decide +kernel), ?_⟩
  refine List.forall_mem_cons.mpr ⟨fun _ _ _ _ _ _ _ _ _ _ _ _ _ _ _ _ _ _ X => so_iinc (k := 2) (n := 1) X (by decide +kernel), ?_⟩
  refine List.forall_mem_cons.mpr ⟨fun _ _ _ _ _ _ _ _ _ _ _ _ _ _ _ _ _ _ X => so_goto (off := -29) (tgt := 2) X (by decide +kernel) (by decide), ?_⟩
  refine List.forall_mem_cons.mpr ⟨fun _ _ _ _ _ _ _ _ _ _ _ _ _ _ _ _ _ _ X => so_vret X rfl (by decide +kernel), ?_⟩
  exact fun _ h => absurd h List.not_mem_nil
set_option maxRecDepth 100000 in
set_option maxHeartbeats 4000000 in
theorem sj_25 {L : Nat} {xs : Nat → Int32} : ∀ q ∈ cd_25, SJ L xs (md_25) q := by
  refine List.forall_mem_cons.mpr ⟨fun _ _ _ _ _ _ _ _ _ _ _ _ _ _ _ _ _ _ X => so_aload_n (k := 0) X (by decide +kernel), ?_⟩
  refine List.forall_mem_cons.mpr ⟨fun _ _ _ _ _ _ _ _ _ _ _ _ _ _ _ _ _ _ X => so_getR (cn := 2) (k := 3) X rfl (by omega) wq_131 (fun _ _ => rfl) (by decide +kernel), ?_⟩
  refine List.forall_mem_cons.mpr ⟨fun _ _ _ _ _ _ _ _ _ _ _ _ _ _ _ _ _ _ X => so_iload_n (k := 2) X (by decide +kernel), ?_⟩
  refine List.forall_mem_cons.mpr ⟨fun _ _ _ _ _ _ _ _ _ _ _ _ _ _ _ _ _ _ X => so_iconst (n := 1) X (by decide +kernel), ?_⟩
  refine List.forall_mem_cons.mpr ⟨fun _ _ _ _ _ _ _ _ _ _ _ _ _ _ _ _ _ _ X => so_iadd X (by decide +kernel), ?_⟩
  refine List.forall_mem_cons.mpr ⟨fun _ _ _ _ _ _ _ _ _ _ _ _ _ _ _ _ _ _ X => so_aald (t := 4) X (by omega) (by omega) (by decide +kernel), ?_⟩
  refine List.forall_mem_cons.mpr ⟨fun _ _ _ _ _ _ _ _ _ _ _ _ _ _ _ _ _ _ X => so_iload_n (k := 3) X (by decide +kernel), ?_⟩
  refine List.forall_mem_cons.mpr ⟨fun _ _ _ _ _ _ _ _ _ _ _ _ _ _ _ _ _ _ X => so_iald X (by decide +kernel), ?_⟩
  refine List.forall_mem_cons.mpr ⟨fun _ _ _ _ _ _ _ _ _ _ _ _ _ _ _ _ _ _ X => so_i2l X (by decide +kernel), ?_⟩
  refine List.forall_mem_cons.mpr ⟨fun _ _ _ _ _ _ _ _ _ _ _ _ _ _ _ _ _ _ X => so_aload_n (k := 0) X (by decide +kernel), ?_⟩
  refine List.forall_mem_cons.mpr ⟨fun _ _ _ _ _ _ _ _ _ _ _ _ _ _ _ _ _ _ X => so_getR (cn := 2) (k := 2) X rfl (by omega) wq_130 (fun _ _ => rfl) (by decide +kernel), ?_⟩
  refine List.forall_mem_cons.mpr ⟨fun _ _ _ _ _ _ _ _ _ _ _ _ _ _ _ _ _ _ X => so_iload_n (k := 1) X (by decide +kernel), ?_⟩
  refine List.forall_mem_cons.mpr ⟨fun _ _ _ _ _ _ _ _ _ _ _ _ _ _ _ _ _ _ X => so_aald (t := 4) X (by omega) (by omega) (by decide +kernel), ?_⟩
  refine List.forall_mem_cons.mpr ⟨fun _ _ _ _ _ _ _ _ _ _ _ _ _ _ _ _ _ _ X => so_iload_n (k := 3) X (by decide +kernel), ?_⟩
  refine List.forall_mem_cons.mpr ⟨fun _ _ _ _ _ _ _ _ _ _ _ _ _ _ _ _ _ _ X => so_iald X (by decide +kernel), ?_⟩
  refine List.forall_mem_cons.mpr ⟨fun _ _ _ _ _ _ _ _ _ _ _ _ _ _ _ _ _ _ X => so_i2l X (by decide +kernel), ?_⟩
  refine List.forall_mem_cons.mpr ⟨fun _ _ _ _ _ _ _ _ _ _ _ _ _ _ _ _ _ _ X => so_lmul X (by decide +kernel), ?_⟩
  refine List.forall_mem_cons.mpr ⟨fun _ _ _ _ _ _ _ _ _ _ _ _ _ _ _ _ _ _ X => so_lret X rfl (by decide +kernel), ?_⟩
  exact fun _ h => absurd h List.not_mem_nil
set_option maxRecDepth 100000 in
set_option maxHeartbeats 4000000 in
theorem sj_26 {L : Nat} {xs : Nat → Int32} : ∀ q ∈ cd_26, SJ L xs (md_26) q := by
  refine List.forall_mem_cons.mpr ⟨fun _ _ _ _ _ _ _ _ _ _ _ _ _ _ _ _ _ _ X => so_aload_n (k := 0) X (by decide +kernel), ?_⟩
  refine List.forall_mem_cons.mpr ⟨fun _ _ _ _ _ _ _ _ _ _ _ _ _ _ _ _ _ _ X => so_objinit X wq_149 wq_42 wq_objinit (by decide +kernel), ?_⟩
  refine List.forall_mem_cons.mpr ⟨fun _ _ _ _ _ _ _ _ _ _ _ _ _ _ _ _ _ _ X => so_vret X rfl (by decide +kernel), ?_⟩
  exact fun _ h => absurd h List.not_mem_nil
set_option maxRecDepth 100000 in
set_option maxHeartbeats 4000000 in
theorem sj_27 {L : Nat} {xs : Nat → Int32} : ∀ q ∈ cd_27, SJ L xs (md_27) q := by
  refine List.forall_mem_cons.mpr ⟨fun _ _ _ _ _ _ _ _ _ _ _ _ _ _ _ _ _ _ X => so_aload_n (k := 0) X (by decide +kernel), ?_⟩
  refine List.forall_mem_cons.mpr ⟨fun _ _ _ _ _ _ _ _ _ _ _ _ _ _ _ _ _ _ X => so_objinit X wq_158 wq_42 wq_objinit (by decide +kernel), ?_⟩
  refine List.forall_mem_cons.mpr ⟨fun _ _ _ _ _ _ _ _ _ _ _ _ _ _ _ _ _ _ X => so_aload_n (k := 0) X (by decide +kernel), ?_⟩
  refine List.forall_mem_cons.mpr ⟨fun _ _ _ _ _ _ _ _ _ _ _ _ _ _ _ _ _ _ X => so_bipush (n := 10) X (by decide +kernel) (by decide +kernel), ?_⟩
  refine List.forall_mem_cons.mpr ⟨fun _ _ _ _ _ _ _ _ _ _ _ _ _ _ _ _ _ _ X => so_newa_j X wq_169 (by decide +kernel), ?_⟩
  refine List.forall_mem_cons.mpr ⟨fun _ _ _ _ _ _ _ _ _ _ _ _ _ _ _ _ _ _ X => so_putR (cn := 3) (k := 0) X rfl (by omega) wq_159 rfl rfl rfl (by first | exact Or.inl ⟨_, rfl⟩ | exact Or.inr ⟨_, rfl⟩) (by decide +kernel), ?_⟩
  refine List.forall_mem_cons.mpr ⟨fun _ _ _ _ _ _ _ _ _ _ _ _ _ _ _ _ _ _ X => so_aload_n (k := 0) X (by decide +kernel), ?_⟩
  refine List.forall_mem_cons.mpr ⟨fun _ _ _ _ _ _ _ _ _ _ _ _ _ _ _ _ _ _ X => so_bipush (n := 10) X (by decide +kernel) (by decide +kernel), ?_⟩
  refine List.forall_mem_cons.mpr ⟨fun _ _ _ _ _ _ _ _ _ _ _ _ _ _ _ _ _ _ X => so_newa_i X wq_88 (by decide +kernel), ?_⟩
  refine List.forall_mem_cons.mpr ⟨fun _ _ _ _ _ _ _ _ _ _ _ _ _ _ _ _ _ _ X => so_putR (cn := 3) (k := 1) X rfl (by omega) wq_160 rfl rfl rfl (by first | exact Or.inl ⟨_, rfl⟩ | exact Or.inr ⟨_, rfl⟩) (by decide +kernel), ?_⟩
  refine List.forall_mem_cons.mpr ⟨fun _ _ _ _ _ _ _ _ _ _ _ _ _ _ _ _ _ _ X => so_vret X rfl (by decide +kernel), ?_⟩
  exact fun _ h => absurd h List.not_mem_nil
set_option maxRecDepth 100000 in
set_option maxHeartbeats 4000000 in
theorem sj_28 {L : Nat} {xs : Nat → Int32} : ∀ q ∈ cd_28, SJ L xs (md_28) q := by
  refine List.forall_mem_cons.mpr ⟨fun _ _ _ _ _ _ _ _ _ _ _ _ _ _ _ _ _ _ X => so_aload_n (k := 0) X (by decide +kernel), ?_⟩
  refine List.forall_mem_cons.mpr ⟨fun _ _ _ _ _ _ _ _ _ _ _ _ _ _ _ _ _ _ X => so_iconst (n := 0) X (by decide +kernel), ?_⟩
  refine List.forall_mem_cons.mpr ⟨fun _ _ _ _ _ _ _ _ _ _ _ _ _ _ _ _ _ _ X => so_putI (cn := 3) (k := 2) X rfl (by omega) (Or.inl wq_161) rfl rfl (by decide +kernel), ?_⟩
  refine List.forall_mem_cons.mpr ⟨fun _ _ _ _ _ _ _ _ _ _ _ _ _ _ _ _ _ _ X => so_vret X rfl (by decide +kernel), ?_⟩
  exact fun _ h => absurd h List.not_mem_nil
set_option maxRecDepth 100000 in
set_option maxHeartbeats 4000000 in
theorem sj_29 {L : Nat} {xs : Nat → Int32} : ∀ q ∈ cd_29, SJ L xs (md_29) q := by
  refine List.forall_mem_cons.mpr ⟨fun _ _ _ _ _ _ _ _ _ _ _ _ _ _ _ _ _ _ X => so_aload_n (k := 0) X (by decide +kernel), ?_⟩
  refine List.forall_mem_cons.mpr ⟨fun _ _ _ _ _ _ _ _ _ _ _ _ _ _ _ _ _ _ X => so_getI (cn := 3) (k := 2) X rfl (by omega) wq_161 (fun _ _ => rfl) (by decide +kernel), ?_⟩
  refine List.forall_mem_cons.mpr ⟨fun _ _ _ _ _ _ _ _ _ _ _ _ _ _ _ _ _ _ X => so_istore (k := 4) X (by decide +kernel), ?_⟩
  refine List.forall_mem_cons.mpr ⟨fun _ _ _ _ _ _ _ _ _ _ _ _ _ _ _ _ _ _ X => so_iload (k := 4) X (by decide +kernel), ?_⟩
  refine List.forall_mem_cons.mpr ⟨fun _ _ _ _ _ _ _ _ _ _ _ _ _ _ _ _ _ _ X => so_if_le (off := 50) (tgt := 58) X (by decide +kernel) (by decide), ?_⟩
  refine List.forall_mem_cons.mpr ⟨fun _ _ _ _ _ _ _ _ _ _ _ _ _ _ _ _ _ _ X => so_lload_n (k := 1) X (by decide +kernel), ?_⟩
  refine List.forall_mem_cons.mpr ⟨fun _ _ _ _ _ _ _ _ _ _ _ _ _ _ _ _ _ _ X => so_aload_n (k := 0) X (by decide +kernel), ?_⟩
  refine List.forall_mem_cons.mpr ⟨fun _ _ _ _ _ _ _ _ _ _ _ _ _ _ _ _ _ _ X => so_getR (cn := 3) (k := 0) X rfl (by omega) wq_159 (fun _ _ => rfl) (by decide +kernel), ?_⟩
  refine List.forall_mem_cons.mpr ⟨fun _ _ _ _ _ _ _ _ _ _ _ _ _ _ _ _ _ _ X => so_iload (k := 4) X (by decide +kernel), ?_⟩
  refine List.forall_mem_cons.mpr ⟨fun _ _ _ _ _ _ _ _ _ _ _ _ _ _ _ _ _ _ X => so_iconst (n := 1) X (by decide +kernel), ?_⟩
  refine List.forall_mem_cons.mpr ⟨fun _ _ _ _ _ _ _ _ _ _ _ _ _ _ _ _ _ _ X => so_isub X (by decide +kernel), ?_⟩
  refine List.forall_mem_cons.mpr ⟨fun _ _ _ _ _ _ _ _ _ _ _ _ _ _ _ _ _ _ X => so_lald X (by decide +kernel), ?_⟩
  refine List.forall_mem_cons.mpr ⟨fun _ _ _ _ _ _ _ _ _ _ _ _ _ _ _ _ _ _ X => so_lcmp X (by decide +kernel), ?_⟩
  refine List.forall_mem_cons.mpr ⟨fun _ _ _ _ _ _ _ _ _ _ _ _ _ _ _ _ _ _ X => so_if_gt (off := 30) (tgt := 52) X (by decide +kernel) (by decide), ?_⟩
  refine List.forall_mem_cons.mpr ⟨fun _ _ _ _ _ _ _ _ _ _ _ _ _ _ _ _ _ _ X => so_lload_n (k := 1) X (by decide +kernel), ?_⟩
  refine List.forall_mem_cons.mpr ⟨fun _ _ _ _ _ _ _ _ _ _ _ _ _ _ _ _ _ _ X => so_aload_n (k := 0) X (by decide +kernel), ?_⟩
  refine List.forall_mem_cons.mpr ⟨fun _ _ _ _ _ _ _ _ _ _ _ _ _ _ _ _ _ _ X => so_getR (cn := 3) (k := 0) X rfl (by omega) wq_159 (fun _ _ => rfl) (by decide +kernel), ?_⟩
  refine List.forall_mem_cons.mpr ⟨fun _ _ _ _ _ _ _ _ _ _ _ _ _ _ _ _ _ _ X => so_iload (k := 4) X (by decide +kernel), ?_⟩
  refine List.forall_mem_cons.mpr ⟨fun _ _ _ _ _ _ _ _ _ _ _ _ _ _ _ _ _ _ X => so_iconst (n := 1) X (by decide +kernel), ?_⟩
  refine List.forall_mem_cons.mpr ⟨fun _ _ _ _ _ _ _ _ _ _ _ _ _ _ _ _ _ _ X => so_isub X (by decide +kernel), ?_⟩
  refine List.forall_mem_cons.mpr ⟨fun _ _ _ _ _ _ _ _ _ _ _ _ _ _ _ _ _ _ X => so_lald X (by decide +kernel), ?_⟩
  refine List.forall_mem_cons.mpr ⟨fun _ _ _ _ _ _ _ _ _ _ _ _ _ _ _ _ _ _ X => so_lcmp X (by decide +kernel), ?_⟩
  refine List.forall_mem_cons.mpr ⟨fun _ _ _ _ _ _ _ _ _ _ _ _ _ _ _ _ _ _ X => so_if_ne (off := 22) (tgt := 58) X (by decide +kernel) (by decide), ?_⟩
  refine List.forall_mem_cons.mpr ⟨fun _ _ _ _ _ _ _ _ _ _ _ _ _ _ _ _ _ _ X => so_iload_n (k := 3) X (by decide +kernel), ?_⟩
  refine List.forall_mem_cons.mpr ⟨fun _ _ _ _ _ _ _ _ _ _ _ _ _ _ _ _ _ _ X => so_aload_n (k := 0) X (by decide +kernel), ?_⟩
  refine List.forall_mem_cons.mpr ⟨fun _ _ _ _ _ _ _ _ _ _ _ _ _ _ _ _ _ _ X => so_getR (cn := 3) (k := 1) X rfl (by omega) wq_160 (fun _ _ => rfl) (by decide +kernel), ?_⟩
  refine List.forall_mem_cons.mpr ⟨fun _ _ _ _ _ _ _ _ _ _ _ _ _ _ _ _ _ _ X => so_iload (k := 4) X (by decide +kernel), ?_⟩
  refine List.forall_mem_cons.mpr ⟨fun _ _ _ _ _ _ _ _ _ _ _ _ _ _ _ _ _ _ X => so_iconst (n := 1) X (by decide +kernel), ?_⟩
  refine List.forall_mem_cons.mpr ⟨fun _ _ _ _ _ _ _ _ _ _ _ _ _ _ _ _ _ _ X => so_isub X (by decide +kernel), ?_⟩
  refine List.forall_mem_cons.mpr ⟨fun _ _ _ _ _ _ _ _ _ _ _ _ _ _ _ _ _ _ X => so_iald X (by decide +kernel), ?_⟩
  refine List.forall_mem_cons.mpr ⟨fun _ _ _ _ _ _ _ _ _ _ _ _ _ _ _ _ _ _ X => so_icmp_ge (off := 9) (tgt := 58) X (by decide +kernel) (by decide), ?_⟩
  refine List.forall_mem_cons.mpr ⟨fun _ _ _ _ _ _ _ _ _ _ _ _ _ _ _ _ _ _ X => so_iinc (k := 4) (n := (-1)) X (by decide +kernel), ?_⟩
  refine List.forall_mem_cons.mpr ⟨fun _ _ _ _ _ _ _ _ _ _ _ _ _ _ _ _ _ _ X => so_goto (off := -49) (tgt := 6) X (by decide +kernel) (by decide), ?_⟩
  refine List.forall_mem_cons.mpr ⟨fun _ _ _ _ _ _ _ _ _ _ _ _ _ _ _ _ _ _ X => so_lload_n (k := 1) X (by decide +kernel), ?_⟩
  refine List.forall_mem_cons.mpr ⟨fun _ _ _ _ _ _ _ _ _ _ _ _ _ _ _ _ _ _ X => so_lconst (n := 0) X (by decide +kernel), ?_⟩
  refine List.forall_mem_cons.mpr ⟨fun _ _ _ _ _ _ _ _ _ _ _ _ _ _ _ _ _ _ X => so_lcmp X (by decide +kernel), ?_⟩
  refine List.forall_mem_cons.mpr ⟨fun _ _ _ _ _ _ _ _ _ _ _ _ _ _ _ _ _ _ X => so_if_le (off := 18) (tgt := 79) X (by decide +kernel) (by decide), ?_⟩
  refine List.forall_mem_cons.mpr ⟨fun _ _ _ _ _ _ _ _ _ _ _ _ _ _ _ _ _ _ X => so_iload (k := 4) X (by decide +kernel), ?_⟩
  refine List.forall_mem_cons.mpr ⟨fun _ _ _ _ _ _ _ _ _ _ _ _ _ _ _ _ _ _ X => so_bipush (n := 10) X (by decide +kernel) (by decide +kernel), ?_⟩
  refine List.forall_mem_cons.mpr ⟨fun _ _ _ _ _ _ _ _ _ _ _ _ _ _ _ _ _ _ X => so_icmp_ge (off := 11) (tgt := 79) X (by decide +kernel) (by decide), ?_⟩
  refine List.forall_mem_cons.mpr ⟨fun _ _ _ _ _ _ _ _ _ _ _ _ _ _ _ _ _ _ X => so_aload_n (k := 0) X (by decide +kernel), ?_⟩
  refine List.forall_mem_cons.mpr ⟨fun _ _ _ _ _ _ _ _ _ _ _ _ _ _ _ _ _ _ X => so_iload (k := 4) X (by decide +kernel), ?_⟩
  refine List.forall_mem_cons.mpr ⟨fun _ _ _ _ _ _ _ _ _ _ _ _ _ _ _ _ _ _ X => so_lload_n (k := 1) X (by decide +kernel), ?_⟩
  refine List.forall_mem_cons.mpr ⟨fun _ _ _ _ _ _ _ _ _ _ _ _ _ _ _ _ _ _ X => so_iload_n (k := 3) X (by decide +kernel), ?_⟩
  refine List.forall_mem_cons.mpr ⟨fun _ _ _ _ _ _ _ _ _ _ _ _ _ _ _ _ _ _ X => so_callV (i := 30) (cn := 3) (n := 3) X rfl rfl rfl wq_423 wq_425 ws_X4_insert wq_27 wd_30 wc_30 (by decide +kernel), ?_⟩
  refine List.forall_mem_cons.mpr ⟨fun _ _ _ _ _ _ _ _ _ _ _ _ _ _ _ _ _ _ X => so_vret X rfl (by decide +kernel), ?_⟩
  exact fun _ h => absurd h List.not_mem_nil
set_option maxRecDepth 100000 in
set_option maxHeartbeats 4000000 in
theorem sj_30 {L : Nat} {xs : Nat → Int32} : ∀ q ∈ cd_30, SJ L xs (md_30) q := by
  refine List.forall_mem_cons.mpr ⟨fun _ _ _ _ _ _ _ _ _ _ _ _ _ _ _ _ _ _ X => so_aload_n (k := 0) X (by decide +kernel), ?_⟩
  refine List.forall_mem_cons.mpr ⟨fun _ _ _ _ _ _ _ _ _ _ _ _ _ _ _ _ _ _ X => so_getI (cn := 3) (k := 2) X rfl (by omega) wq_161 (fun _ _ => rfl) (by decide +kernel), ?_⟩
  refine List.forall_mem_cons.mpr ⟨fun _ _ _ _ _ _ _ _ _ _ _ _ _ _ _ _ _ _ X => so_bipush (n := 10) X (by decide +kernel) (by decide +kernel), ?_⟩
  refine List.forall_mem_cons.mpr ⟨fun _ _ _ _ _ _ _ _ _ _ _ _ _ _ _ _ _ _ X => so_icmp_ge (off := 13) (tgt := 19) X (by decide +kernel) (by decide), ?_⟩
  refine List.forall_mem_cons.mpr ⟨fun _ _ _ _ _ _ _ _ _ _ _ _ _ _ _ _ _ _ X => so_aload_n (k := 0) X (by decide +kernel), ?_⟩
  refine List.forall_mem_cons.mpr ⟨fun _ _ _ _ _ _ _ _ _ _ _ _ _ _ _ _ _ _ X => so_dup X (by decide +kernel), ?_⟩
  refine List.forall_mem_cons.mpr ⟨fun _ _ _ _ _ _ _ _ _ _ _ _ _ _ _ _ _ _ X => so_getI (cn := 3) (k := 2) X rfl (by omega) wq_161 (fun _ _ => rfl) (by decide +kernel), ?_⟩
  refine List.forall_mem_cons.mpr ⟨fun _ _ _ _ _ _ _ _ _ _ _ _ _ _ _ _ _ _ X => so_iconst (n := 1) X (by decide +kernel), ?_⟩
  refine List.forall_mem_cons.mpr ⟨fun _ _ _ _ _ _ _ _ _ _ _ _ _ _ _ _ _ _ X => so_iadd X (by decide +kernel), ?_⟩
  refine List.forall_mem_cons.mpr ⟨fun _ _ _ _ _ _ _ _ _ _ _ _ _ _ _ _ _ _ X => so_putI (cn := 3) (k := 2) X rfl (by omega) (Or.inl wq_161) rfl rfl (by decide +kernel), ?_⟩
  refine List.forall_mem_cons.mpr ⟨fun _ _ _ _ _ _ _ _ _ _ _ _ _ _ _ _ _ _ X => so_aload_n (k := 0) X (by decide +kernel), ?_⟩
  refine List.forall_mem_cons.mpr ⟨fun _ _ _ _ _ _ _ _ _ _ _ _ _ _ _ _ _ _ X => so_getI (cn := 3) (k := 2) X rfl (by omega) wq_161 (fun _ _ => rfl) (by decide +kernel), ?_⟩
  refine List.forall_mem_cons.mpr ⟨fun _ _ _ _ _ _ _ _ _ _ _ _ _ _ _ _ _ _ X => so_iconst (n := 1) X (by decide +kernel), ?_⟩
  refine List.forall_mem_cons.mpr ⟨fun _ _ _ _ _ _ _ _ _ _ _ _ _ _ _ _ _ _ X => so_isub X (by decide +kernel), ?_⟩
  refine List.forall_mem_cons.mpr ⟨fun _ _ _ _ _ _ _ _ _ _ _ _ _ _ _ _ _ _ X => so_istore (k := 5) X (by decide +kernel), ?_⟩
  refine List.forall_mem_cons.mpr ⟨fun _ _ _ _ _ _ _ _ _ _ _ _ _ _ _ _ _ _ X => so_iload (k := 5) X (by decide +kernel), ?_⟩
  refine List.forall_mem_cons.mpr ⟨fun _ _ _ _ _ _ _ _ _ _ _ _ _ _ _ _ _ _ X => so_iload_n (k := 1) X (by decide +kernel), ?_⟩
  refine List.forall_mem_cons.mpr ⟨fun _ _ _ _ _ _ _ _ _ _ _ _ _ _ _ _ _ _ X => so_icmp_le (off := 41) (tgt := 71) X (by decide +kernel) (by decide), ?_⟩
  refine List.forall_mem_cons.mpr ⟨fun _ _ _ _ _ _ _ _ _ _ _ _ _ _ _ _ _ _ X => so_aload_n (k := 0) X (by decide +kernel), ?_⟩
  refine List.forall_mem_cons.mpr ⟨fun _ _ _ _ _ _ _ _ _ _ _ _ _ _ _ _ _ _ X => so_getR (cn := 3) (k := 0) X rfl (by omega) wq_159 (fun _ _ => rfl) (by decide +kernel), ?_⟩
  refine List.forall_mem_cons.mpr ⟨fun _ _ _ _ _ _ _ _ _ _ _ _ _ _ _ _ _ _ X => so_iload (k := 5) X (by decide +kernel), ?_⟩
  refine List.forall_mem_cons.mpr ⟨fun _ _ _ _ _ _ _ _ _ _ _ _ _ _ _ _ _ _ X => so_aload_n (k := 0) X (by decide +kernel), ?_⟩
  refine List.forall_mem_cons.mpr ⟨fun _ _ _ _ _ _ _ _ _ _ _ _ _ _ _ _ _ _ X => so_getR (cn := 3) (k := 0) X rfl (by omega) wq_159 (fun _ _ => rfl) (by decide +kernel), ?_⟩
  refine List.forall_mem_cons.mpr ⟨fun _ _ _ _ _ _ _ _ _ _ _ _ _ _ _ _ _ _ X => so_iload (k := 5) X (by decide +kernel), ?_⟩
  refine List.forall_mem_cons.mpr ⟨fun _ _ _ _ _ _ _ _ _ _ _ _ _ _ _ _ _ _ X => so_iconst (n := 1) X (by decide +kernel), ?_⟩
  refine List.forall_mem_cons.mpr ⟨fun _ _ _ _ _ _ _ _ _ _ _ _ _ _ _ _ _ _ X => so_isub X (by decide +kernel), ?_⟩
  refine List.forall_mem_cons.mpr ⟨fun _ _ _ _ _ _ _ _ _ _ _ _ _ _ _ _ _ _ X => so_lald X (by decide +kernel), ?_⟩
  refine List.forall_mem_cons.mpr ⟨fun _ _ _ _ _ _ _ _ _ _ _ _ _ _ _ _ _ _ X => so_last X (by decide +kernel), ?_⟩
  refine List.forall_mem_cons.mpr ⟨fun _ _ _ _ _ _ _ _ _ _ _ _ _ _ _ _ _ _ X => so_aload_n (k := 0) X (by decide +kernel), ?_⟩
  refine List.forall_mem_cons.mpr ⟨fun _ _ _ _ _ _ _ _ _ _ _ _ _ _ _ _ _ _ X => so_getR (cn := 3) (k := 1) X rfl (by omega) wq_160 (fun _ _ => rfl) (by decide +kernel), ?_⟩
  refine List.forall_mem_cons.mpr ⟨fun _ _ _ _ _ _ _ _ _ _ _ _ _ _ _ _ _ _ X => so_iload (k := 5) X (by decide +kernel), ?_⟩
  refine List.forall_mem_cons.mpr ⟨fun _ _ _ _ _ _ _ _ _ _ _ _ _ _ _ _ _ _ X => so_aload_n (k := 0) X (by decide +kernel), ?_⟩
  refine List.forall_mem_cons.mpr ⟨fun _ _ _ _ _ _ _ _ _ _ _ _ _ _ _ _ _ _ X => so_getR (cn := 3) (k := 1) X rfl (by omega) wq_160 (fun _ _ => rfl) (by decide +kernel), ?_⟩
  refine List.forall_mem_cons.mpr ⟨fun _ _ _ _ _ _ _ _ _ _ _ _ _ _ _ _ _ _ X => so_iload (k := 5) X (by decide +kernel), ?_⟩
  refine List.forall_mem_cons.mpr ⟨fun _ _ _ _ _ _ _ _ _ _ _ _ _ _ _ _ _ _ X => so_iconst (n := 1) X (by decide +kernel), ?_⟩
  refine List.forall_mem_cons.mpr ⟨fun _ _ _ _ _ _ _ _ _ _ _ _ _ _ _ _ _ _ X => so_isub X (by decide +kernel), ?_⟩
  refine List.forall_mem_cons.mpr ⟨fun _ _ _ _ _ _ _ _ _ _ _ _ _ _ _ _ _ _ X => so_iald X (by decide +kernel), ?_⟩
  refine List.forall_mem_cons.mpr ⟨fun _ _ _ _ _ _ _ _ _ _ _ _ _ _ _ _ _ _ X => so_iast X (by decide +kernel), ?_⟩
  refine List.forall_mem_cons.mpr ⟨fun _ _ _ _ _ _ _ _ _ _ _ _ _ _ _ _ _ _ X => so_iinc (k := 5) (n := (-1)) X (by decide +kernel), ?_⟩
  refine List.forall_mem_cons.mpr ⟨fun _ _ _ _ _ _ _ _ _ _ _ _ _ _ _ _ _ _ X => so_goto (off := -41) (tgt := 27) X (by decide +kernel) (by decide), ?_⟩
  refine List.forall_mem_cons.mpr ⟨fun _ _ _ _ _ _ _ _ _ _ _ _ _ _ _ _ _ _ X => so_aload_n (k := 0) X (by decide +kernel), ?_⟩
  refine List.forall_mem_cons.mpr ⟨fun _ _ _ _ _ _ _ _ _ _ _ _ _ _ _ _ _ _ X => so_getR (cn := 3) (k := 0) X rfl (by omega) wq_159 (fun _ _ => rfl) (by decide +kernel), ?_⟩
  refine List.forall_mem_cons.mpr ⟨fun _ _ _ _ _ _ _ _ _ _ _ _ _ _ _ _ _ _ X => so_iload_n (k := 1) X (by decide +kernel), ?_⟩
  refine List.forall_mem_cons.mpr ⟨fun _ _ _ _ _ _ _ _ _ _ _ _ _ _ _ _ _ _ X => so_lload_n (k := 2) X (by decide +kernel), ?_⟩
  refine List.forall_mem_cons.mpr ⟨fun _ _ _ _ _ _ _ _ _ _ _ _ _ _ _ _ _ _ X => so_last X (by decide +kernel), ?_⟩
  refine List.forall_mem_cons.mpr ⟨fun _ _ _ _ _ _ _ _ _ _ _ _ _ _ _ _ _ _ X => so_aload_n (k := 0) X (by decide +kernel), ?_⟩
  refine List.forall_mem_cons.mpr ⟨fun _ _ _ _ _ _ _ _ _ _ _ _ _ _ _ _ _ _ X => so_getR (cn := 3) (k := 1) X rfl (by omega) wq_160 (fun _ _ => rfl) (by decide +kernel), ?_⟩
  refine List.forall_mem_cons.mpr ⟨fun _ _ _ _ _ _ _ _ _ _ _ _ _ _ _ _ _ _ X => so_iload_n (k := 1) X (by decide +kernel), ?_⟩
  refine List.forall_mem_cons.mpr ⟨fun _ _ _ _ _ _ _ _ _ _ _ _ _ _ _ _ _ _ X => so_iload (k := 4) X (by decide +kernel), ?_⟩
  refine List.forall_mem_cons.mpr ⟨fun _ _ _ _ _ _ _ _ _ _ _ _ _ _ _ _ _ _ X => so_iast X (by decide +kernel), ?_⟩
  refine List.forall_mem_cons.mpr ⟨fun _ _ _ _ _ _ _ _ _ _ _ _ _ _ _ _ _ _ X => so_vret X rfl (by decide +kernel), ?_⟩
  exact fun _ h => absurd h List.not_mem_nil
set_option maxRecDepth 100000 in
set_option maxHeartbeats 4000000 in
theorem sj_31 {L : Nat} {xs : Nat → Int32} : ∀ q ∈ cd_31, SJ L xs (md_31) q := by
  refine List.forall_mem_cons.mpr ⟨fun _ _ _ _ _ _ _ _ _ _ _ _ _ _ _ _ _ _ X => so_iconst (n := 0) X (by decide +kernel), ?_⟩
  refine List.forall_mem_cons.mpr ⟨fun _ _ _ _ _ _ _ _ _ _ _ _ _ _ _ _ _ _ X => so_istore_n (k := 2) X (by decide +kernel), ?_⟩
  refine List.forall_mem_cons.mpr ⟨fun _ _ _ _ _ _ _ _ _ _ _ _ _ _ _ _ _ _ X => so_iload_n (k := 2) X (by decide +kernel), ?_⟩
  refine List.forall_mem_cons.mpr ⟨fun _ _ _ _ _ _ _ _ _ _ _ _ _ _ _ _ _ _ X => so_aload_n (k := 1) X (by decide +kernel), ?_⟩
  refine List.forall_mem_cons.mpr ⟨fun _ _ _ _ _ _ _ _ _ _ _ _ _ _ _ _ _ _ X => so_getI (cn := 3) (k := 2) X rfl (by omega) wq_161 (fun _ _ => rfl) (by decide +kernel), ?_⟩
  refine List.forall_mem_cons.mpr ⟨fun _ _ _ _ _ _ _ _ _ _ _ _ _ _ _ _ _ _ X => so_icmp_ge (off := 25) (tgt := 32) X (by decide +kernel) (by decide), ?_⟩
  refine List.forall_mem_cons.mpr ⟨fun _ _ _ _ _ _ _ _ _ _ _ _ _ _ _ _ _ _ X => so_aload_n (k := 0) X (by decide +kernel), ?_⟩
  refine List.forall_mem_cons.mpr ⟨fun _ _ _ _ _ _ _ _ _ _ _ _ _ _ _ _ _ _ X => so_aload_n (k := 1) X (by decide +kernel), ?_⟩
  refine List.forall_mem_cons.mpr ⟨fun _ _ _ _ _ _ _ _ _ _ _ _ _ _ _ _ _ _ X => so_getR (cn := 3) (k := 0) X rfl (by omega) wq_159 (fun _ _ => rfl) (by decide +kernel), ?_⟩
  refine List.forall_mem_cons.mpr ⟨fun _ _ _ _ _ _ _ _ _ _ _ _ _ _ _ _ _ _ X => so_iload_n (k := 2) X (by decide +kernel), ?_⟩
  refine List.forall_mem_cons.mpr ⟨fun _ _ _ _ _ _ _ _ _ _ _ _ _ _ _ _ _ _ X => so_lald X (by decide +kernel), ?_⟩
  refine List.forall_mem_cons.mpr ⟨fun _ _ _ _ _ _ _ _ _ _ _ _ _ _ _ _ _ _ X => so_aload_n (k := 1) X (by decide +kernel), ?_⟩
  refine List.forall_mem_cons.mpr ⟨fun _ _ _ _ _ _ _ _ _ _ _ _ _ _ _ _ _ _ X => so_getR (cn := 3) (k := 1) X rfl (by omega) wq_160 (fun _ _ => rfl) (by decide +kernel), ?_⟩
  refine List.forall_mem_cons.mpr ⟨fun _ _ _ _ _ _ _ _ _ _ _ _ _ _ _ _ _ _ X => so_iload_n (k := 2) X (by decide +kernel), ?_⟩
  refine List.forall_mem_cons.mpr ⟨fun _ _ _ _ _ _ _ _ _ _ _ _ _ _ _ _ _ _ X => so_iald X (by decide +kernel), ?_⟩
  refine List.forall_mem_cons.mpr ⟨fun _ _ _ _ _ _ _ _ _ _ _ _ _ _ _ _ _ _ X => so_callV (i := 29) (cn := 3) (n := 2) X rfl rfl rfl wq_451 wq_420 wq_421 wq_27 wd_29 wc_29 (by decide +kernel), ?_⟩
  refine List.forall_mem_cons.mpr ⟨fun _ _ _ _ _ _ _ _ _ _ _ _ _ _ _ _ _ _ X => so_iinc (k := 2) (n := 1) X (by decide +kernel), ?_⟩
  refine List.forall_mem_cons.mpr ⟨fun _ _ _ _ _ _ _ _ _ _ _ _ _ _ _ _ _ _ X => so_goto (off := -27) (tgt := 2) X (by decide +kernel) (by decide), ?_⟩
  refine List.forall_mem_cons.mpr ⟨fun _ _ _ _ _ _ _ _ _ _ _ _ _ _ _ _ _ _ X => so_vret X rfl (by decide +kernel), ?_⟩
  exact fun _ h => absurd h List.not_mem_nil
set_option maxRecDepth 100000 in
set_option maxHeartbeats 4000000 in
theorem sj_32 {L : Nat} {xs : Nat → Int32} : ∀ q ∈ cd_32, SJ L xs (md_32) q := by
  refine List.forall_mem_cons.mpr ⟨fun _ _ _ _ _ _ _ _ _ _ _ _ _ _ _ _ _ _ X => so_iconst (n := 0) X (by decide +kernel), ?_⟩
  refine List.forall_mem_cons.mpr ⟨fun _ _ _ _ _ _ _ _ _ _ _ _ _ _ _ _ _ _ X => so_istore (k := 5) X (by decide +kernel), ?_⟩
  refine List.forall_mem_cons.mpr ⟨fun _ _ _ _ _ _ _ _ _ _ _ _ _ _ _ _ _ _ X => so_iload (k := 5) X (by decide +kernel), ?_⟩
  refine List.forall_mem_cons.mpr ⟨fun _ _ _ _ _ _ _ _ _ _ _ _ _ _ _ _ _ _ X => so_aload_n (k := 1) X (by decide +kernel), ?_⟩
  refine List.forall_mem_cons.mpr ⟨fun _ _ _ _ _ _ _ _ _ _ _ _ _ _ _ _ _ _ X => so_getI (cn := 3) (k := 2) X rfl (by omega) wq_161 (fun _ _ => rfl) (by decide +kernel), ?_⟩
  refine List.forall_mem_cons.mpr ⟨fun _ _ _ _ _ _ _ _ _ _ _ _ _ _ _ _ _ _ X => so_icmp_ge (off := 34) (tgt := 43) X (by decide +kernel) (by decide), ?_⟩
  refine List.forall_mem_cons.mpr ⟨fun _ _ _ _ _ _ _ _ _ _ _ _ _ _ _ _ _ _ X => so_aload_n (k := 0) X (by decide +kernel), ?_⟩
  refine List.forall_mem_cons.mpr ⟨fun _ _ _ _ _ _ _ _ _ _ _ _ _ _ _ _ _ _ X => so_aload_n (k := 1) X (by decide +kernel), ?_⟩
  refine List.forall_mem_cons.mpr ⟨fun _ _ _ _ _ _ _ _ _ _ _ _ _ _ _ _ _ _ X => so_getR (cn := 3) (k := 0) X rfl (by omega) wq_159 (fun _ _ => rfl) (by decide +kernel), ?_⟩
  refine List.forall_mem_cons.mpr ⟨fun _ _ _ _ _ _ _ _ _ _ _ _ _ _ _ _ _ _ X => so_iload (k := 5) X (by decide +kernel), ?_⟩
  refine List.forall_mem_cons.mpr ⟨fun _ _ _ _ _ _ _ _ _ _ _ _ _ _ _ _ _ _ X => so_lald X (by decide +kernel), ?_⟩
  refine List.forall_mem_cons.mpr ⟨fun _ _ _ _ _ _ _ _ _ _ _ _ _ _ _ _ _ _ X => so_lload_n (k := 2) X (by decide +kernel), ?_⟩
  refine List.forall_mem_cons.mpr ⟨fun _ _ _ _ _ _ _ _ _ _ _ _ _ _ _ _ _ _ X => so_lmul X (by decide +kernel), ?_⟩
  refine List.forall_mem_cons.mpr ⟨fun _ _ _ _ _ _ _ _ _ _ _ _ _ _ _ _ _ _ X => so_aload_n (k := 1) X (by decide +kernel), ?_⟩
  refine List.forall_mem_cons.mpr ⟨fun _ _ _ _ _ _ _ _ _ _ _ _ _ _ _ _ _ _ X => so_getR (cn := 3) (k := 1) X rfl (by omega) wq_160 (fun _ _ => rfl) (by decide +kernel), ?_⟩
  refine List.forall_mem_cons.mpr ⟨fun _ _ _ _ _ _ _ _ _ _ _ _ _ _ _ _ _ _ X => so_iload (k := 5) X (by decide +kernel), ?_⟩
  refine List.forall_mem_cons.mpr ⟨fun _ _ _ _ _ _ _ _ _ _ _ _ _ _ _ _ _ _ X => so_iald X (by decide +kernel), ?_⟩
  refine List.forall_mem_cons.mpr ⟨fun _ _ _ _ _ _ _ _ _ _ _ _ _ _ _ _ _ _ X => so_iload (k := 4) X (by decide +kernel), ?_⟩
  refine List.forall_mem_cons.mpr ⟨fun _ _ _ _ _ _ _ _ _ _ _ _ _ _ _ _ _ _ X => so_callS (i := 35) (n := 2) X rfl wq_450 wq_417 wq_27 wd_35 wc_35 (by decide +kernel), ?_⟩
  refine List.forall_mem_cons.mpr ⟨fun _ _ _ _ _ _ _ _ _ _ _ _ _ _ _ _ _ _ X => so_callV (i := 29) (cn := 3) (n := 2) X rfl rfl rfl wq_451 wq_420 wq_421 wq_27 wd_29 wc_29 (by decide +kernel), ?_⟩
  refine List.forall_mem_cons.mpr ⟨fun _ _ _ _ _ _ _ _ _ _ _ _ _ _ _ _ _ _ X => so_iinc (k := 5) (n := 1) X (by decide +kernel), ?_⟩
  refine List.forall_mem_cons.mpr ⟨fun _ _ _ _ _ _ _ _ _ _ _ _ _ _ _ _ _ _ X => so_goto (off := -37) (tgt := 3) X (by decide +kernel) (by decide), ?_⟩
  refine List.forall_mem_cons.mpr ⟨fun _ _ _ _ _ _ _ _ _ _ _ _ _ _ _ _ _ _ X => so_vret X rfl (by decide +kernel), ?_⟩
  exact fun _ h => absurd h List.not_mem_nil
set_option maxRecDepth 100000 in
set_option maxHeartbeats 4000000 in
theorem sj_33 {L : Nat} {xs : Nat → Int32} : ∀ q ∈ cd_33, SJ L xs (md_33) q := by
  refine List.forall_mem_cons.mpr ⟨fun _ _ _ _ _ _ _ _ _ _ _ _ _ _ _ _ _ _ X => so_iload_n (k := 1) X (by decide +kernel), ?_⟩
  refine List.forall_mem_cons.mpr ⟨fun _ _ _ _ _ _ _ _ _ _ _ _ _ _ _ _ _ _ X => so_aload_n (k := 0) X (by decide +kernel), ?_⟩
  refine List.forall_mem_cons.mpr ⟨fun _ _ _ _ _ _ _ _ _ _ _ _ _ _ _ _ _ _ X => so_getI (cn := 3) (k := 2) X rfl (by omega) wq_161 (fun _ _ => rfl) (by decide +kernel), ?_⟩
  refine List.forall_mem_cons.mpr ⟨fun _ _ _ _ _ _ _ _ _ _ _ _ _ _ _ _ _ _ X => so_icmp_ge (off := 12) (tgt := 17) X (by decide +kernel) (by decide), ?_⟩
  refine List.forall_mem_cons.mpr ⟨fun _ _ _ _ _ _ _ _ _ _ _ _ _ _ _ _ _ _ X => so_aload_n (k := 0) X (by decide +kernel), ?_⟩
  refine List.forall_mem_cons.mpr ⟨fun _ _ _ _ _ _ _ _ _ _ _ _ _ _ _ _ _ _ X => so_getR (cn := 3) (k := 0) X rfl (by omega) wq_159 (fun _ _ => rfl) (by decide +kernel), ?_⟩
  refine List.forall_mem_cons.mpr ⟨fun _ _ _ _ _ _ _ _ _ _ _ _ _ _ _ _ _ _ X => so_iload_n (k := 1) X (by decide +kernel), ?_⟩
  refine List.forall_mem_cons.mpr ⟨fun _ _ _ _ _ _ _ _ _ _ _ _ _ _ _ _ _ _ X => so_lald X (by decide +kernel), ?_⟩
  refine List.forall_mem_cons.mpr ⟨fun _ _ _ _ _ _ _ _ _ _ _ _ _ _ _ _ _ _ X => so_goto (off := 4) (tgt := 18) X (by decide +kernel) (by decide), ?_⟩
  refine List.forall_mem_cons.mpr ⟨fun _ _ _ _ _ _ _ _ _ _ _ _ _ _ _ _ _ _ X => so_lconst (n := 0) X (by decide +kernel), ?_⟩
  refine List.forall_mem_cons.mpr ⟨fun _ _ _ _ _ _ _ _ _ _ _ _ _ _ _ _ _ _ X => so_lret X rfl (by decide +kernel), ?_⟩
  exact fun _ h => absurd h List.not_mem_nil
set_option maxRecDepth 100000 in
set_option maxHeartbeats 4000000 in
theorem sj_34 {L : Nat} {xs : Nat → Int32} : ∀ q ∈ cd_34, SJ L xs (md_34) q := by
  refine List.forall_mem_cons.mpr ⟨fun _ _ _ _ _ _ _ _ _ _ _ _ _ _ _ _ _ _ X => so_iload_n (k := 1) X (by decide +kernel), ?_⟩
  refine List.forall_mem_cons.mpr ⟨fun _ _ _ _ _ _ _ _ _ _ _ _ _ _ _ _ _ _ X => so_aload_n (k := 0) X (by decide +kernel), ?_⟩
  refine List.forall_mem_cons.mpr ⟨fun _ _ _ _ _ _ _ _ _ _ _ _ _ _ _ _ _ _ X => so_getI (cn := 3) (k := 2) X rfl (by omega) wq_161 (fun _ _ => rfl) (by decide +kernel), ?_⟩
  refine List.forall_mem_cons.mpr ⟨fun _ _ _ _ _ _ _ _ _ _ _ _ _ _ _ _ _ _ X => so_icmp_ge (off := 19) (tgt := 24) X (by decide +kernel) (by decide), ?_⟩
  refine List.forall_mem_cons.mpr ⟨fun _ _ _ _ _ _ _ _ _ _ _ _ _ _ _ _ _ _ X => so_aload_n (k := 0) X (by decide +kernel), ?_⟩
  refine List.forall_mem_cons.mpr ⟨fun _ _ _ _ _ _ _ _ _ _ _ _ _ _ _ _ _ _ X => so_getR (cn := 3) (k := 1) X rfl (by omega) wq_160 (fun _ _ => rfl) (by decide +kernel), ?_⟩
  refine List.forall_mem_cons.mpr ⟨fun _ _ _ _ _ _ _ _ _ _ _ _ _ _ _ _ _ _ X => so_iload_n (k := 1) X (by decide +kernel), ?_⟩
  refine List.forall_mem_cons.mpr ⟨fun _ _ _ _ _ _ _ _ _ _ _ _ _ _ _ _ _ _ X => so_iald X (by decide +kernel), ?_⟩
  refine List.forall_mem_cons.mpr ⟨fun _ _ _ _ _ _ _ _ _ _ _ _ _ _ _ _ _ _ X => so_iconst (n := 3) X (by decide +kernel), ?_⟩
  refine List.forall_mem_cons.mpr ⟨fun _ _ _ _ _ _ _ _ _ _ _ _ _ _ _ _ _ _ X => so_iload_n (k := 2) X (by decide +kernel), ?_⟩
  refine List.forall_mem_cons.mpr ⟨fun _ _ _ _ _ _ _ _ _ _ _ _ _ _ _ _ _ _ X => so_imul X (by decide +kernel), ?_⟩
  refine List.forall_mem_cons.mpr ⟨fun _ _ _ _ _ _ _ _ _ _ _ _ _ _ _ _ _ _ X => so_ishr X (by decide +kernel), ?_⟩
  refine List.forall_mem_cons.mpr ⟨fun _ _ _ _ _ _ _ _ _ _ _ _ _ _ _ _ _ _ X => so_bipush (n := 7) X (by decide +kernel) (by decide +kernel), ?_⟩
  refine List.forall_mem_cons.mpr ⟨fun _ _ _ _ _ _ _ _ _ _ _ _ _ _ _ _ _ _ X => so_iand X (by decide +kernel), ?_⟩
  refine List.forall_mem_cons.mpr ⟨fun _ _ _ _ _ _ _ _ _ _ _ _ _ _ _ _ _ _ X => so_goto (off := 4) (tgt := 25) X (by decide +kernel) (by decide), ?_⟩
  refine List.forall_mem_cons.mpr ⟨fun _ _ _ _ _ _ _ _ _ _ _ _ _ _ _ _ _ _ X => so_iconst (n := (-1)) X (by decide +kernel), ?_⟩
  refine List.forall_mem_cons.mpr ⟨fun _ _ _ _ _ _ _ _ _ _ _ _ _ _ _ _ _ _ X => so_iret X rfl (by decide +kernel), ?_⟩
  exact fun _ h => absurd h List.not_mem_nil
set_option maxRecDepth 100000 in
set_option maxHeartbeats 4000000 in
theorem sj_35 {L : Nat} {xs : Nat → Int32} : ∀ q ∈ cd_35, SJ L xs (md_35) q := by
  refine List.forall_mem_cons.mpr ⟨fun _ _ _ _ _ _ _ _ _ _ _ _ _ _ _ _ _ _ X => so_iload_n (k := 0) X (by decide +kernel), ?_⟩
  refine List.forall_mem_cons.mpr ⟨fun _ _ _ _ _ _ _ _ _ _ _ _ _ _ _ _ _ _ X => so_iconst (n := 3) X (by decide +kernel), ?_⟩
  refine List.forall_mem_cons.mpr ⟨fun _ _ _ _ _ _ _ _ _ _ _ _ _ _ _ _ _ _ X => so_ishl X (by decide +kernel), ?_⟩
  refine List.forall_mem_cons.mpr ⟨fun _ _ _ _ _ _ _ _ _ _ _ _ _ _ _ _ _ _ X => so_iload_n (k := 1) X (by decide +kernel), ?_⟩
  refine List.forall_mem_cons.mpr ⟨fun _ _ _ _ _ _ _ _ _ _ _ _ _ _ _ _ _ _ X => so_ior X (by decide +kernel), ?_⟩
  refine List.forall_mem_cons.mpr ⟨fun _ _ _ _ _ _ _ _ _ _ _ _ _ _ _ _ _ _ X => so_iret X rfl (by decide +kernel), ?_⟩
  exact fun _ h => absurd h List.not_mem_nil
set_option maxRecDepth 100000 in
set_option maxHeartbeats 4000000 in
theorem sj_36 {L : Nat} {xs : Nat → Int32} : ∀ q ∈ cd_36, SJ L xs (md_36) q := by
  refine List.forall_mem_cons.mpr ⟨fun _ _ _ _ _ _ _ _ _ _ _ _ _ _ _ _ _ _ X => so_aload_n (k := 0) X (by decide +kernel), ?_⟩
  refine List.forall_mem_cons.mpr ⟨fun _ _ _ _ _ _ _ _ _ _ _ _ _ _ _ _ _ _ X => so_objinit X wq_110 wq_42 wq_objinit (by decide +kernel), ?_⟩
  refine List.forall_mem_cons.mpr ⟨fun _ _ _ _ _ _ _ _ _ _ _ _ _ _ _ _ _ _ X => so_aload_n (k := 0) X (by decide +kernel), ?_⟩
  refine List.forall_mem_cons.mpr ⟨fun _ _ _ _ _ _ _ _ _ _ _ _ _ _ _ _ _ _ X => so_iconst (n := 5) X (by decide +kernel), ?_⟩
  refine List.forall_mem_cons.mpr ⟨fun _ _ _ _ _ _ _ _ _ _ _ _ _ _ _ _ _ _ X => so_newa_i X wq_88 (by decide +kernel), ?_⟩
  refine List.forall_mem_cons.mpr ⟨fun _ _ _ _ _ _ _ _ _ _ _ _ _ _ _ _ _ _ X => so_putR (cn := 4) (k := 0) X rfl (by omega) wq_111 rfl rfl rfl (by first | exact Or.inl ⟨_, rfl⟩ | exact Or.inr ⟨_, rfl⟩) (by decide +kernel), ?_⟩
  refine List.forall_mem_cons.mpr ⟨fun _ _ _ _ _ _ _ _ _ _ _ _ _ _ _ _ _ _ X => so_aload_n (k := 0) X (by decide +kernel), ?_⟩
  refine List.forall_mem_cons.mpr ⟨fun _ _ _ _ _ _ _ _ _ _ _ _ _ _ _ _ _ _ X => so_iconst (n := 5) X (by decide +kernel), ?_⟩
  refine List.forall_mem_cons.mpr ⟨fun _ _ _ _ _ _ _ _ _ _ _ _ _ _ _ _ _ _ X => so_newa_i X wq_88 (by decide +kernel), ?_⟩
  refine List.forall_mem_cons.mpr ⟨fun _ _ _ _ _ _ _ _ _ _ _ _ _ _ _ _ _ _ X => so_putR (cn := 4) (k := 1) X rfl (by omega) wq_112 rfl rfl rfl (by first | exact Or.inl ⟨_, rfl⟩ | exact Or.inr ⟨_, rfl⟩) (by decide +kernel), ?_⟩
  refine List.forall_mem_cons.mpr ⟨fun _ _ _ _ _ _ _ _ _ _ _ _ _ _ _ _ _ _ X => so_vret X rfl (by decide +kernel), ?_⟩
  exact fun _ h => absurd h List.not_mem_nil
set_option maxRecDepth 100000 in
set_option maxHeartbeats 4000000 in
theorem sj_37 {L : Nat} {xs : Nat → Int32} : ∀ q ∈ cd_37, SJ L xs (md_37) q := by
  refine List.forall_mem_cons.mpr ⟨fun _ _ _ _ _ _ _ _ _ _ _ _ _ _ _ _ _ _ X => so_aload_n (k := 0) X (by decide +kernel), ?_⟩
  refine List.forall_mem_cons.mpr ⟨fun _ _ _ _ _ _ _ _ _ _ _ _ _ _ _ _ _ _ X => so_getI (cn := 4) (k := 2) X rfl (by omega) wq_113 (fun _ _ => rfl) (by decide +kernel), ?_⟩
  refine List.forall_mem_cons.mpr ⟨fun _ _ _ _ _ _ _ _ _ _ _ _ _ _ _ _ _ _ X => so_iret X rfl (by decide +kernel), ?_⟩
  exact fun _ h => absurd h List.not_mem_nil
set_option maxRecDepth 100000 in
set_option maxHeartbeats 4000000 in
theorem sj_38 {L : Nat} {xs : Nat → Int32} : ∀ q ∈ cd_38, SJ L xs (md_38) q := by
  refine List.forall_mem_cons.mpr ⟨fun _ _ _ _ _ _ _ _ _ _ _ _ _ _ _ _ _ _ X => so_aload_n (k := 0) X (by decide +kernel), ?_⟩
  refine List.forall_mem_cons.mpr ⟨fun _ _ _ _ _ _ _ _ _ _ _ _ _ _ _ _ _ _ X => so_getI (cn := 4) (k := 2) X rfl (by omega) wq_113 (fun _ _ => rfl) (by decide +kernel), ?_⟩
  refine List.forall_mem_cons.mpr ⟨fun _ _ _ _ _ _ _ _ _ _ _ _ _ _ _ _ _ _ X => so_iconst (n := 5) X (by decide +kernel), ?_⟩
  refine List.forall_mem_cons.mpr ⟨fun _ _ _ _ _ _ _ _ _ _ _ _ _ _ _ _ _ _ X => so_icmp_lt (off := 7) (tgt := 12) X (by decide +kernel) (by decide), ?_⟩
  refine List.forall_mem_cons.mpr ⟨fun _ _ _ _ _ _ _ _ _ _ _ _ _ _ _ _ _ _ X => so_iconst (n := 1) X (by decide +kernel), ?_⟩
  refine List.forall_mem_cons.mpr ⟨fun _ _ _ _ _ _ _ _ _ _ _ _ _ _ _ _ _ _ X => so_goto (off := 4) (tgt := 13) X (by decide +kernel) (by decide), ?_⟩
  refine List.forall_mem_cons.mpr ⟨fun _ _ _ _ _ _ _ _ _ _ _ _ _ _ _ _ _ _ X => so_iconst (n := 0) X (by decide +kernel), ?_⟩
  refine List.forall_mem_cons.mpr ⟨fun _ _ _ _ _ _ _ _ _ _ _ _ _ _ _ _ _ _ X => so_zret X rfl (by decide +kernel), ?_⟩
  exact fun _ h => absurd h List.not_mem_nil
set_option maxRecDepth 100000 in
set_option maxHeartbeats 4000000 in
theorem sj_39 {L : Nat} {xs : Nat → Int32} : ∀ q ∈ cd_39, SJ L xs (md_39) q := by
  refine List.forall_mem_cons.mpr ⟨fun _ _ _ _ _ _ _ _ _ _ _ _ _ _ _ _ _ _ X => so_aload_n (k := 0) X (by decide +kernel), ?_⟩
  refine List.forall_mem_cons.mpr ⟨fun _ _ _ _ _ _ _ _ _ _ _ _ _ _ _ _ _ _ X => so_getR (cn := 4) (k := 0) X rfl (by omega) wq_111 (fun _ _ => rfl) (by decide +kernel), ?_⟩
  refine List.forall_mem_cons.mpr ⟨fun _ _ _ _ _ _ _ _ _ _ _ _ _ _ _ _ _ _ X => so_aload_n (k := 0) X (by decide +kernel), ?_⟩
  refine List.forall_mem_cons.mpr ⟨fun _ _ _ _ _ _ _ _ _ _ _ _ _ _ _ _ _ _ X => so_getI (cn := 4) (k := 2) X rfl (by omega) wq_113 (fun _ _ => rfl) (by decide +kernel), ?_⟩
  refine List.forall_mem_cons.mpr ⟨fun _ _ _ _ _ _ _ _ _ _ _ _ _ _ _ _ _ _ X => so_iload_n (k := 1) X (by decide +kernel), ?_⟩
  refine List.forall_mem_cons.mpr ⟨fun _ _ _ _ _ _ _ _ _ _ _ _ _ _ _ _ _ _ X => so_iast X (by decide +kernel), ?_⟩
  refine List.forall_mem_cons.mpr ⟨fun _ _ _ _ _ _ _ _ _ _ _ _ _ _ _ _ _ _ X => so_aload_n (k := 0) X (by decide +kernel), ?_⟩
  refine List.forall_mem_cons.mpr ⟨fun _ _ _ _ _ _ _ _ _ _ _ _ _ _ _ _ _ _ X => so_getR (cn := 4) (k := 1) X rfl (by omega) wq_112 (fun _ _ => rfl) (by decide +kernel), ?_⟩
  refine List.forall_mem_cons.mpr ⟨fun _ _ _ _ _ _ _ _ _ _ _ _ _ _ _ _ _ _ X => so_aload_n (k := 0) X (by decide +kernel), ?_⟩
  refine List.forall_mem_cons.mpr ⟨fun _ _ _ _ _ _ _ _ _ _ _ _ _ _ _ _ _ _ X => so_getI (cn := 4) (k := 2) X rfl (by omega) wq_113 (fun _ _ => rfl) (by decide +kernel), ?_⟩
  refine List.forall_mem_cons.mpr ⟨fun _ _ _ _ _ _ _ _ _ _ _ _ _ _ _ _ _ _ X => so_iconst (n := (-1)) X (by decide +kernel), ?_⟩
  refine List.forall_mem_cons.mpr ⟨fun _ _ _ _ _ _ _ _ _ _ _ _ _ _ _ _ _ _ X => so_iast X (by decide +kernel), ?_⟩
  refine List.forall_mem_cons.mpr ⟨fun _ _ _ _ _ _ _ _ _ _ _ _ _ _ _ _ _ _ X => so_aload_n (k := 0) X (by decide +kernel), ?_⟩
  refine List.forall_mem_cons.mpr ⟨fun _ _ _ _ _ _ _ _ _ _ _ _ _ _ _ _ _ _ X => so_dup X (by decide +kernel), ?_⟩
  refine List.forall_mem_cons.mpr ⟨fun _ _ _ _ _ _ _ _ _ _ _ _ _ _ _ _ _ _ X => so_getI (cn := 4) (k := 2) X rfl (by omega) wq_113 (fun _ _ => rfl) (by decide +kernel), ?_⟩
  refine List.forall_mem_cons.mpr ⟨fun _ _ _ _ _ _ _ _ _ _ _ _ _ _ _ _ _ _ X => so_iconst (n := 1) X (by decide +kernel), ?_⟩
  refine List.forall_mem_cons.mpr ⟨fun _ _ _ _ _ _ _ _ _ _ _ _ _ _ _ _ _ _ X => so_iadd X (by decide +kernel), ?_⟩
  refine List.forall_mem_cons.mpr ⟨fun _ _ _ _ _ _ _ _ _ _ _ _ _ _ _ _ _ _ X => so_putI (cn := 4) (k := 2) X rfl (by omega) (Or.inl wq_113) rfl rfl (by decide +kernel), ?_⟩
  refine List.forall_mem_cons.mpr ⟨fun _ _ _ _ _ _ _ _ _ _ _ _ _ _ _ _ _ _ X => so_aload_n (k := 0) X (by decide +kernel), ?_⟩
  refine List.forall_mem_cons.mpr ⟨fun _ _ _ _ _ _ _ _ _ _ _ _ _ _ _ _ _ _ X => so_getI (cn := 4) (k := 2) X rfl (by omega) wq_113 (fun _ _ => rfl) (by decide +kernel), ?_⟩
  refine List.forall_mem_cons.mpr ⟨fun _ _ _ _ _ _ _ _ _ _ _ _ _ _ _ _ _ _ X => so_iret X rfl (by decide +kernel), ?_⟩
  exact fun _ h => absurd h List.not_mem_nil
set_option maxRecDepth 100000 in
set_option maxHeartbeats 4000000 in
theorem sj_40 {L : Nat} {xs : Nat → Int32} : ∀ q ∈ cd_40, SJ L xs (md_40) q := by
  refine List.forall_mem_cons.mpr ⟨fun _ _ _ _ _ _ _ _ _ _ _ _ _ _ _ _ _ _ X => so_aload_n (k := 0) X (by decide +kernel), ?_⟩
  refine List.forall_mem_cons.mpr ⟨fun _ _ _ _ _ _ _ _ _ _ _ _ _ _ _ _ _ _ X => so_getI (cn := 4) (k := 2) X rfl (by omega) wq_113 (fun _ _ => rfl) (by decide +kernel), ?_⟩
  refine List.forall_mem_cons.mpr ⟨fun _ _ _ _ _ _ _ _ _ _ _ _ _ _ _ _ _ _ X => so_istore_n (k := 1) X (by decide +kernel), ?_⟩
  refine List.forall_mem_cons.mpr ⟨fun _ _ _ _ _ _ _ _ _ _ _ _ _ _ _ _ _ _ X => so_aload_n (k := 0) X (by decide +kernel), ?_⟩
  refine List.forall_mem_cons.mpr ⟨fun _ _ _ _ _ _ _ _ _ _ _ _ _ _ _ _ _ _ X => so_iconst (n := 0) X (by decide +kernel), ?_⟩
  refine List.forall_mem_cons.mpr ⟨fun _ _ _ _ _ _ _ _ _ _ _ _ _ _ _ _ _ _ X => so_putI (cn := 4) (k := 2) X rfl (by omega) (Or.inl wq_113) rfl rfl (by decide +kernel), ?_⟩
  refine List.forall_mem_cons.mpr ⟨fun _ _ _ _ _ _ _ _ _ _ _ _ _ _ _ _ _ _ X => so_iload_n (k := 1) X (by decide +kernel), ?_⟩
  refine List.forall_mem_cons.mpr ⟨fun _ _ _ _ _ _ _ _ _ _ _ _ _ _ _ _ _ _ X => so_iret X rfl (by decide +kernel), ?_⟩
  exact fun _ h => absurd h List.not_mem_nil
