/-! ===== sound, op by op (written by a program) ===== -/
set_option maxRecDepth 100000 in
set_option maxHeartbeats 4000000 in
theorem sj_0 {L : Nat} {xs : Nat → Int32} : ∀ q ∈ cd_0, SJ L xs (md_0) q := by
  refine List.forall_mem_cons.mpr ⟨fun _ _ _ _ _ _ _ _ _ _ _ _ _ _ _ _ _ _ X => so_aload_n (k := 0) X (by decide +kernel), ?_⟩
  refine List.forall_mem_cons.mpr ⟨fun _ _ _ _ _ _ _ _ _ _ _ _ _ _ _ _ _ _ X => so_callIN (i := 26) (cn := 0) (n := 0) X rfl rfl rfl wq_188 wq_147 wq_25 wd_26 wc_26 (by decide +kernel), ?_⟩
  refine List.forall_mem_cons.mpr ⟨fun _ _ _ _ _ _ _ _ _ _ _ _ _ _ _ _ _ _ X => so_aload_n (k := 0) X (by decide +kernel), ?_⟩
  refine List.forall_mem_cons.mpr ⟨fun _ _ _ _ _ _ _ _ _ _ _ _ _ _ _ _ _ _ X => so_iconst (n := 5) X (by decide +kernel), ?_⟩
  refine List.forall_mem_cons.mpr ⟨fun _ _ _ _ _ _ _ _ _ _ _ _ _ _ _ _ _ _ X => so_newa_i X wq_88 (by decide +kernel), ?_⟩
  refine List.forall_mem_cons.mpr ⟨fun _ _ _ _ _ _ _ _ _ _ _ _ _ _ _ _ _ _ X => so_putR (cn := 0) (k := 1) X rfl (by omega) wq_190 rfl rfl rfl (by first | exact Or.inl ⟨_, rfl⟩ | exact Or.inr ⟨_, rfl⟩) (by decide +kernel), ?_⟩
  refine List.forall_mem_cons.mpr ⟨fun _ _ _ _ _ _ _ _ _ _ _ _ _ _ _ _ _ _ X => so_aload_n (k := 0) X (by decide +kernel), ?_⟩
  refine List.forall_mem_cons.mpr ⟨fun _ _ _ _ _ _ _ _ _ _ _ _ _ _ _ _ _ _ X => so_bipush (n := 6) X (by decide +kernel) (by decide +kernel), ?_⟩
  refine List.forall_mem_cons.mpr ⟨fun _ _ _ _ _ _ _ _ _ _ _ _ _ _ _ _ _ _ X => so_newa_j X wq_169 (by decide +kernel), ?_⟩
  refine List.forall_mem_cons.mpr ⟨fun _ _ _ _ _ _ _ _ _ _ _ _ _ _ _ _ _ _ X => so_putR (cn := 0) (k := 2) X rfl (by omega) wq_191 rfl rfl rfl (by first | exact Or.inl ⟨_, rfl⟩ | exact Or.inr ⟨_, rfl⟩) (by decide +kernel), ?_⟩
  refine List.forall_mem_cons.mpr ⟨fun _ _ _ _ _ _ _ _ _ _ _ _ _ _ _ _ _ _ X => so_aload_n (k := 0) X (by decide +kernel), ?_⟩
  refine List.forall_mem_cons.mpr ⟨fun _ _ _ _ _ _ _ _ _ _ _ _ _ _ _ _ _ _ X => so_bipush (n := 6) X (by decide +kernel) (by decide +kernel), ?_⟩
  refine List.forall_mem_cons.mpr ⟨fun _ _ _ _ _ _ _ _ _ _ _ _ _ _ _ _ _ _ X => so_newa_i X wq_88 (by decide +kernel), ?_⟩
  refine List.forall_mem_cons.mpr ⟨fun _ _ _ _ _ _ _ _ _ _ _ _ _ _ _ _ _ _ X => so_putR (cn := 0) (k := 3) X rfl (by omega) wq_192 rfl rfl rfl (by first | exact Or.inl ⟨_, rfl⟩ | exact Or.inr ⟨_, rfl⟩) (by decide +kernel), ?_⟩
  refine List.forall_mem_cons.mpr ⟨fun _ _ _ _ _ _ _ _ _ _ _ _ _ _ _ _ _ _ X => so_aload_n (k := 0) X (by decide +kernel), ?_⟩
  refine List.forall_mem_cons.mpr ⟨fun _ _ _ _ _ _ _ _ _ _ _ _ _ _ _ _ _ _ X => so_aload_n (k := 1) X (by decide +kernel), ?_⟩
  refine List.forall_mem_cons.mpr ⟨fun _ _ _ _ _ _ _ _ _ _ _ _ _ _ _ _ _ _ X => so_putR (cn := 0) (k := 0) X rfl (by omega) wq_189 rfl rfl rfl (by first | exact Or.inl ⟨_, rfl⟩ | exact Or.inr ⟨_, rfl⟩) (by decide +kernel), ?_⟩
  refine List.forall_mem_cons.mpr ⟨fun _ _ _ _ _ _ _ _ _ _ _ _ _ _ _ _ _ _ X => so_vret X rfl (by decide +kernel), ?_⟩
  exact fun _ h => absurd h List.not_mem_nil
set_option maxRecDepth 100000 in
set_option maxHeartbeats 4000000 in
theorem sj_1 {L : Nat} {xs : Nat → Int32} : ∀ q ∈ cd_1, SJ L xs (md_1) q := by
  refine List.forall_mem_cons.mpr ⟨fun _ _ _ _ _ _ _ _ _ _ _ _ _ _ _ _ _ _ X => so_aload_n (k := 0) X (by decide +kernel), ?_⟩
  refine List.forall_mem_cons.mpr ⟨fun _ _ _ _ _ _ _ _ _ _ _ _ _ _ _ _ _ _ X => so_getR (cn := 0) (k := 0) X rfl (by omega) wq_189 (fun _ _ => rfl) (by decide +kernel), ?_⟩
  refine List.forall_mem_cons.mpr ⟨fun _ _ _ _ _ _ _ _ _ _ _ _ _ _ _ _ _ _ X => so_callV (i := 22) (cn := 2) (n := 0) X rfl rfl rfl wq_396 wq_397 wq_398 wq_24 wd_22 wc_22 (by decide +kernel), ?_⟩
  refine List.forall_mem_cons.mpr ⟨fun _ _ _ _ _ _ _ _ _ _ _ _ _ _ _ _ _ _ X => so_istore_n (k := 2) X (by decide +kernel), ?_⟩
  refine List.forall_mem_cons.mpr ⟨fun _ _ _ _ _ _ _ _ _ _ _ _ _ _ _ _ _ _ X => so_aload_n (k := 0) X (by decide +kernel), ?_⟩
  refine List.forall_mem_cons.mpr ⟨fun _ _ _ _ _ _ _ _ _ _ _ _ _ _ _ _ _ _ X => so_callV (i := 3) (cn := 0) (n := 0) X rfl rfl rfl wq_400 wq_402 ws_X0_countPaths wq_28 wd_3 wc_3 (by decide +kernel), ?_⟩
  refine List.forall_mem_cons.mpr ⟨fun _ _ _ _ _ _ _ _ _ _ _ _ _ _ _ _ _ _ X => so_istore_n (k := 3) X (by decide +kernel), ?_⟩
  refine List.forall_mem_cons.mpr ⟨fun _ _ _ _ _ _ _ _ _ _ _ _ _ _ _ _ _ _ X => so_aload_n (k := 0) X (by decide +kernel), ?_⟩
  refine List.forall_mem_cons.mpr ⟨fun _ _ _ _ _ _ _ _ _ _ _ _ _ _ _ _ _ _ X => so_callV (i := 4) (cn := 0) (n := 0) X rfl rfl rfl wq_404 wq_406 ws_X0_startWalk wq_28 wd_4 wc_4 (by decide +kernel), ?_⟩
  refine List.forall_mem_cons.mpr ⟨fun _ _ _ _ _ _ _ _ _ _ _ _ _ _ _ _ _ _ X => so_iconst (n := 0) X (by decide +kernel), ?_⟩
  refine List.forall_mem_cons.mpr ⟨fun _ _ _ _ _ _ _ _ _ _ _ _ _ _ _ _ _ _ X => so_istore (k := 4) X (by decide +kernel), ?_⟩
  refine List.forall_mem_cons.mpr ⟨fun _ _ _ _ _ _ _ _ _ _ _ _ _ _ _ _ _ _ X => so_iload (k := 4) X (by decide +kernel), ?_⟩
  refine List.forall_mem_cons.mpr ⟨fun _ _ _ _ _ _ _ _ _ _ _ _ _ _ _ _ _ _ X => so_iload_n (k := 3) X (by decide +kernel), ?_⟩
  refine List.forall_mem_cons.mpr ⟨fun _ _ _ _ _ _ _ _ _ _ _ _ _ _ _ _ _ _ X => so_icmp_ge (off := 29) (tgt := 52) X (by decide +kernel) (by decide), ?_⟩
  refine List.forall_mem_cons.mpr ⟨fun _ _ _ _ _ _ _ _ _ _ _ _ _ _ _ _ _ _ X => so_aload_n (k := 1) X (by decide +kernel), ?_⟩
  refine List.forall_mem_cons.mpr ⟨fun _ _ _ _ _ _ _ _ _ _ _ _ _ _ _ _ _ _ X => so_aload_n (k := 0) X (by decide +kernel), ?_⟩
  refine List.forall_mem_cons.mpr ⟨fun _ _ _ _ _ _ _ _ _ _ _ _ _ _ _ _ _ _ X => so_getR (cn := 0) (k := 2) X rfl (by omega) wq_191 (fun _ _ => rfl) (by decide +kernel), ?_⟩
  refine List.forall_mem_cons.mpr ⟨fun _ _ _ _ _ _ _ _ _ _ _ _ _ _ _ _ _ _ X => so_iload_n (k := 2) X (by decide +kernel), ?_⟩
  refine List.forall_mem_cons.mpr ⟨fun _ _ _ _ _ _ _ _ _ _ _ _ _ _ _ _ _ _ X => so_lald X (by decide +kernel), ?_⟩
  refine List.forall_mem_cons.mpr ⟨fun _ _ _ _ _ _ _ _ _ _ _ _ _ _ _ _ _ _ X => so_aload_n (k := 0) X (by decide +kernel), ?_⟩
  refine List.forall_mem_cons.mpr ⟨fun _ _ _ _ _ _ _ _ _ _ _ _ _ _ _ _ _ _ X => so_getR (cn := 0) (k := 3) X rfl (by omega) wq_192 (fun _ _ => rfl) (by decide +kernel), ?_⟩
  refine List.forall_mem_cons.mpr ⟨fun _ _ _ _ _ _ _ _ _ _ _ _ _ _ _ _ _ _ X => so_iload_n (k := 2) X (by decide +kernel), ?_⟩
  refine List.forall_mem_cons.mpr ⟨fun _ _ _ _ _ _ _ _ _ _ _ _ _ _ _ _ _ _ X => so_iald X (by decide +kernel), ?_⟩
  refine List.forall_mem_cons.mpr ⟨fun _ _ _ _ _ _ _ _ _ _ _ _ _ _ _ _ _ _ X => so_callV (i := 29) (cn := 3) (n := 2) X rfl rfl rfl wq_419 wq_420 wq_421 wq_27 wd_29 wc_29 (by decide +kernel), ?_⟩
  refine List.forall_mem_cons.mpr ⟨fun _ _ _ _ _ _ _ _ _ _ _ _ _ _ _ _ _ _ X => so_aload_n (k := 0) X (by decide +kernel), ?_⟩
  refine List.forall_mem_cons.mpr ⟨fun _ _ _ _ _ _ _ _ _ _ _ _ _ _ _ _ _ _ X => so_callV (i := 5) (cn := 0) (n := 0) X rfl rfl rfl wq_427 wq_429 ws_X0_goOn wq_28 wd_5 wc_5 (by decide +kernel), ?_⟩
  refine List.forall_mem_cons.mpr ⟨fun _ _ _ _ _ _ _ _ _ _ _ _ _ _ _ _ _ _ X => so_iinc (k := 4) (n := 1) X (by decide +kernel), ?_⟩
  refine List.forall_mem_cons.mpr ⟨fun _ _ _ _ _ _ _ _ _ _ _ _ _ _ _ _ _ _ X => so_goto (off := -29) (tgt := 20) X (by decide +kernel) (by decide), ?_⟩
  refine List.forall_mem_cons.mpr ⟨fun _ _ _ _ _ _ _ _ _ _ _ _ _ _ _ _ _ _ X => so_vret X rfl (by decide +kernel), ?_⟩
  exact fun _ h => absurd h List.not_mem_nil
set_option maxRecDepth 100000 in
set_option maxHeartbeats 4000000 in
theorem sj_2 {L : Nat} {xs : Nat → Int32} : ∀ q ∈ cd_2, SJ L xs (md_2) q := by
  refine List.forall_mem_cons.mpr ⟨fun _ _ _ _ _ _ _ _ _ _ _ _ _ _ _ _ _ _ X => so_iconst (n := 0) X (by decide +kernel), ?_⟩
  refine List.forall_mem_cons.mpr ⟨fun _ _ _ _ _ _ _ _ _ _ _ _ _ _ _ _ _ _ X => so_istore_n (k := 3) X (by decide +kernel), ?_⟩
  refine List.forall_mem_cons.mpr ⟨fun _ _ _ _ _ _ _ _ _ _ _ _ _ _ _ _ _ _ X => so_iload_n (k := 3) X (by decide +kernel), ?_⟩
  refine List.forall_mem_cons.mpr ⟨fun _ _ _ _ _ _ _ _ _ _ _ _ _ _ _ _ _ _ X => so_iconst (n := 5) X (by decide +kernel), ?_⟩
  refine List.forall_mem_cons.mpr ⟨fun _ _ _ _ _ _ _ _ _ _ _ _ _ _ _ _ _ _ X => so_icmp_ge (off := 13) (tgt := 17) X (by decide +kernel) (by decide), ?_⟩
  refine List.forall_mem_cons.mpr ⟨fun _ _ _ _ _ _ _ _ _ _ _ _ _ _ _ _ _ _ X => so_aload_n (k := 1) X (by decide +kernel), ?_⟩
  refine List.forall_mem_cons.mpr ⟨fun _ _ _ _ _ _ _ _ _ _ _ _ _ _ _ _ _ _ X => so_iload_n (k := 3) X (by decide +kernel), ?_⟩
  refine List.forall_mem_cons.mpr ⟨fun _ _ _ _ _ _ _ _ _ _ _ _ _ _ _ _ _ _ X => so_lconst (n := 0) X (by decide +kernel), ?_⟩
  refine List.forall_mem_cons.mpr ⟨fun _ _ _ _ _ _ _ _ _ _ _ _ _ _ _ _ _ _ X => so_last X (by decide +kernel), ?_⟩
  refine List.forall_mem_cons.mpr ⟨fun _ _ _ _ _ _ _ _ _ _ _ _ _ _ _ _ _ _ X => so_iinc (k := 3) (n := 1) X (by decide +kernel), ?_⟩
  refine List.forall_mem_cons.mpr ⟨fun _ _ _ _ _ _ _ _ _ _ _ _ _ _ _ _ _ _ X => so_goto (off := -12) (tgt := 2) X (by decide +kernel) (by decide), ?_⟩
  refine List.forall_mem_cons.mpr ⟨fun _ _ _ _ _ _ _ _ _ _ _ _ _ _ _ _ _ _ X => so_aload_n (k := 0) X (by decide +kernel), ?_⟩
  refine List.forall_mem_cons.mpr ⟨fun _ _ _ _ _ _ _ _ _ _ _ _ _ _ _ _ _ _ X => so_getR (cn := 0) (k := 0) X rfl (by omega) wq_189 (fun _ _ => rfl) (by decide +kernel), ?_⟩
  refine List.forall_mem_cons.mpr ⟨fun _ _ _ _ _ _ _ _ _ _ _ _ _ _ _ _ _ _ X => so_callV (i := 22) (cn := 2) (n := 0) X rfl rfl rfl wq_396 wq_397 wq_398 wq_24 wd_22 wc_22 (by decide +kernel), ?_⟩
  refine List.forall_mem_cons.mpr ⟨fun _ _ _ _ _ _ _ _ _ _ _ _ _ _ _ _ _ _ X => so_istore_n (k := 3) X (by decide +kernel), ?_⟩
  refine List.forall_mem_cons.mpr ⟨fun _ _ _ _ _ _ _ _ _ _ _ _ _ _ _ _ _ _ X => so_aload_n (k := 0) X (by decide +kernel), ?_⟩
  refine List.forall_mem_cons.mpr ⟨fun _ _ _ _ _ _ _ _ _ _ _ _ _ _ _ _ _ _ X => so_callV (i := 3) (cn := 0) (n := 0) X rfl rfl rfl wq_400 wq_402 ws_X0_countPaths wq_28 wd_3 wc_3 (by decide +kernel), ?_⟩
  refine List.forall_mem_cons.mpr ⟨fun _ _ _ _ _ _ _ _ _ _ _ _ _ _ _ _ _ _ X => so_istore (k := 4) X (by decide +kernel), ?_⟩
  refine List.forall_mem_cons.mpr ⟨fun _ _ _ _ _ _ _ _ _ _ _ _ _ _ _ _ _ _ X => so_aload_n (k := 0) X (by decide +kernel), ?_⟩
  refine List.forall_mem_cons.mpr ⟨fun _ _ _ _ _ _ _ _ _ _ _ _ _ _ _ _ _ _ X => so_callV (i := 4) (cn := 0) (n := 0) X rfl rfl rfl wq_404 wq_406 ws_X0_startWalk wq_28 wd_4 wc_4 (by decide +kernel), ?_⟩
  refine List.forall_mem_cons.mpr ⟨fun _ _ _ _ _ _ _ _ _ _ _ _ _ _ _ _ _ _ X => so_iconst (n := 0) X (by decide +kernel), ?_⟩
  refine List.forall_mem_cons.mpr ⟨fun _ _ _ _ _ _ _ _ _ _ _ _ _ _ _ _ _ _ X => so_istore (k := 5) X (by decide +kernel), ?_⟩
  refine List.forall_mem_cons.mpr ⟨fun _ _ _ _ _ _ _ _ _ _ _ _ _ _ _ _ _ _ X => so_iload (k := 5) X (by decide +kernel), ?_⟩
  refine List.forall_mem_cons.mpr ⟨fun _ _ _ _ _ _ _ _ _ _ _ _ _ _ _ _ _ _ X => so_iload (k := 4) X (by decide +kernel), ?_⟩
  refine List.forall_mem_cons.mpr ⟨fun _ _ _ _ _ _ _ _ _ _ _ _ _ _ _ _ _ _ X => so_icmp_ge (off := 30) (tgt := 72) X (by decide +kernel) (by decide), ?_⟩
  refine List.forall_mem_cons.mpr ⟨fun _ _ _ _ _ _ _ _ _ _ _ _ _ _ _ _ _ _ X => so_aload_n (k := 1) X (by decide +kernel), ?_⟩
  refine List.forall_mem_cons.mpr ⟨fun _ _ _ _ _ _ _ _ _ _ _ _ _ _ _ _ _ _ X => so_aload_n (k := 0) X (by decide +kernel), ?_⟩
  refine List.forall_mem_cons.mpr ⟨fun _ _ _ _ _ _ _ _ _ _ _ _ _ _ _ _ _ _ X => so_getR (cn := 0) (k := 1) X rfl (by omega) wq_190 (fun _ _ => rfl) (by decide +kernel), ?_⟩
  refine List.forall_mem_cons.mpr ⟨fun _ _ _ _ _ _ _ _ _ _ _ _ _ _ _ _ _ _ X => so_iload_n (k := 2) X (by decide +kernel), ?_⟩
  refine List.forall_mem_cons.mpr ⟨fun _ _ _ _ _ _ _ _ _ _ _ _ _ _ _ _ _ _ X => so_iald X (by decide +kernel), ?_⟩
  refine List.forall_mem_cons.mpr ⟨fun _ _ _ _ _ _ _ _ _ _ _ _ _ _ _ _ _ _ X => so_dup2 X (by decide +kernel), ?_⟩
  refine List.forall_mem_cons.mpr ⟨fun _ _ _ _ _ _ _ _ _ _ _ _ _ _ _ _ _ _ X => so_lald X (by decide +kernel), ?_⟩
  refine List.forall_mem_cons.mpr ⟨fun _ _ _ _ _ _ _ _ _ _ _ _ _ _ _ _ _ _ X => so_aload_n (k := 0) X (by decide +kernel), ?_⟩
  refine List.forall_mem_cons.mpr ⟨fun _ _ _ _ _ _ _ _ _ _ _ _ _ _ _ _ _ _ X => so_getR (cn := 0) (k := 2) X rfl (by omega) wq_191 (fun _ _ => rfl) (by decide +kernel), ?_⟩
  refine List.forall_mem_cons.mpr ⟨fun _ _ _ _ _ _ _ _ _ _ _ _ _ _ _ _ _ _ X => so_iload_n (k := 3) X (by decide +kernel), ?_⟩
  refine List.forall_mem_cons.mpr ⟨fun _ _ _ _ _ _ _ _ _ _ _ _ _ _ _ _ _ _ X => so_lald X (by decide +kernel), ?_⟩
  refine List.forall_mem_cons.mpr ⟨fun _ _ _ _ _ _ _ _ _ _ _ _ _ _ _ _ _ _ X => so_ladd X (by decide +kernel), ?_⟩
  refine List.forall_mem_cons.mpr ⟨fun _ _ _ _ _ _ _ _ _ _ _ _ _ _ _ _ _ _ X => so_last X (by decide +kernel), ?_⟩
  refine List.forall_mem_cons.mpr ⟨fun _ _ _ _ _ _ _ _ _ _ _ _ _ _ _ _ _ _ X => so_aload_n (k := 0) X (by decide +kernel), ?_⟩
  refine List.forall_mem_cons.mpr ⟨fun _ _ _ _ _ _ _ _ _ _ _ _ _ _ _ _ _ _ X => so_callV (i := 5) (cn := 0) (n := 0) X rfl rfl rfl wq_427 wq_429 ws_X0_goOn wq_28 wd_5 wc_5 (by decide +kernel), ?_⟩
  refine List.forall_mem_cons.mpr ⟨fun _ _ _ _ _ _ _ _ _ _ _ _ _ _ _ _ _ _ X => so_iinc (k := 5) (n := 1) X (by decide +kernel), ?_⟩
  refine List.forall_mem_cons.mpr ⟨fun _ _ _ _ _ _ _ _ _ _ _ _ _ _ _ _ _ _ X => so_goto (off := -31) (tgt := 38) X (by decide +kernel) (by decide), ?_⟩
  refine List.forall_mem_cons.mpr ⟨fun _ _ _ _ _ _ _ _ _ _ _ _ _ _ _ _ _ _ X => so_vret X rfl (by decide +kernel), ?_⟩
  exact fun _ h => absurd h List.not_mem_nil
set_option maxRecDepth 100000 in
set_option maxHeartbeats 4000000 in
theorem sj_3 {L : Nat} {xs : Nat → Int32} : ∀ q ∈ cd_3, SJ L xs (md_3) q := by
  refine List.forall_mem_cons.mpr ⟨fun _ _ _ _ _ _ _ _ _ _ _ _ _ _ _ _ _ _ X => so_iconst (n := 1) X (by decide +kernel), ?_⟩
  refine List.forall_mem_cons.mpr ⟨fun _ _ _ _ _ _ _ _ _ _ _ _ _ _ _ _ _ _ X => so_istore_n (k := 1) X (by decide +kernel), ?_⟩
  refine List.forall_mem_cons.mpr ⟨fun _ _ _ _ _ _ _ _ _ _ _ _ _ _ _ _ _ _ X => so_iconst (n := 0) X (by decide +kernel), ?_⟩
  refine List.forall_mem_cons.mpr ⟨fun _ _ _ _ _ _ _ _ _ _ _ _ _ _ _ _ _ _ X => so_istore_n (k := 2) X (by decide +kernel), ?_⟩
  refine List.forall_mem_cons.mpr ⟨fun _ _ _ _ _ _ _ _ _ _ _ _ _ _ _ _ _ _ X => so_iload_n (k := 2) X (by decide +kernel), ?_⟩
  refine List.forall_mem_cons.mpr ⟨fun _ _ _ _ _ _ _ _ _ _ _ _ _ _ _ _ _ _ X => so_aload_n (k := 0) X (by decide +kernel), ?_⟩
  refine List.forall_mem_cons.mpr ⟨fun _ _ _ _ _ _ _ _ _ _ _ _ _ _ _ _ _ _ X => so_getR (cn := 0) (k := 0) X rfl (by omega) wq_189 (fun _ _ => rfl) (by decide +kernel), ?_⟩
  refine List.forall_mem_cons.mpr ⟨fun _ _ _ _ _ _ _ _ _ _ _ _ _ _ _ _ _ _ X => so_callV (i := 22) (cn := 2) (n := 0) X rfl rfl rfl wq_396 wq_397 wq_398 wq_24 wd_22 wc_22 (by decide +kernel), ?_⟩
  refine List.forall_mem_cons.mpr ⟨fun _ _ _ _ _ _ _ _ _ _ _ _ _ _ _ _ _ _ X => so_icmp_ge (off := 13) (tgt := 25) X (by decide +kernel) (by decide), ?_⟩
  refine List.forall_mem_cons.mpr ⟨fun _ _ _ _ _ _ _ _ _ _ _ _ _ _ _ _ _ _ X => so_iload_n (k := 1) X (by decide +kernel), ?_⟩
  refine List.forall_mem_cons.mpr ⟨fun _ _ _ _ _ _ _ _ _ _ _ _ _ _ _ _ _ _ X => so_iconst (n := 5) X (by decide +kernel), ?_⟩
  refine List.forall_mem_cons.mpr ⟨fun _ _ _ _ _ _ _ _ _ _ _ _ _ _ _ _ _ _ X => so_imul X (by decide +kernel), ?_⟩
  refine List.forall_mem_cons.mpr ⟨fun _ _ _ _ _ _ _ _ _ _ _ _ _ _ _ _ _ _ X => so_istore_n (k := 1) X (by decide +kernel), ?_⟩
  refine List.forall_mem_cons.mpr ⟨fun _ _ _ _ _ _ _ _ _ _ _ _ _ _ _ _ _ _ X => so_iinc (k := 2) (n := 1) X (by decide +kernel), ?_⟩
  refine List.forall_mem_cons.mpr ⟨fun _ _ _ _ _ _ _ _ _ _ _ _ _ _ _ _ _ _ X => so_goto (off := -18) (tgt := 4) X (by decide +kernel) (by decide), ?_⟩
  refine List.forall_mem_cons.mpr ⟨fun _ _ _ _ _ _ _ _ _ _ _ _ _ _ _ _ _ _ X => so_iload_n (k := 1) X (by decide +kernel), ?_⟩
  refine List.forall_mem_cons.mpr ⟨fun _ _ _ _ _ _ _ _ _ _ _ _ _ _ _ _ _ _ X => so_iret X rfl (by decide +kernel), ?_⟩
  exact fun _ h => absurd h List.not_mem_nil
set_option maxRecDepth 100000 in
set_option maxHeartbeats 4000000 in
theorem sj_4 {L : Nat} {xs : Nat → Int32} : ∀ q ∈ cd_4, SJ L xs (md_4) q := by
  refine List.forall_mem_cons.mpr ⟨fun _ _ _ _ _ _ _ _ _ _ _ _ _ _ _ _ _ _ X => so_aload_n (k := 0) X (by decide +kernel), ?_⟩
  refine List.forall_mem_cons.mpr ⟨fun _ _ _ _ _ _ _ _ _ _ _ _ _ _ _ _ _ _ X => so_getR (cn := 0) (k := 2) X rfl (by omega) wq_191 (fun _ _ => rfl) (by decide +kernel), ?_⟩
  refine List.forall_mem_cons.mpr ⟨fun _ _ _ _ _ _ _ _ _ _ _ _ _ _ _ _ _ _ X => so_iconst (n := 0) X (by decide +kernel), ?_⟩
  refine List.forall_mem_cons.mpr ⟨fun _ _ _ _ _ _ _ _ _ _ _ _ _ _ _ _ _ _ X => so_lconst (n := 1) X (by decide +kernel), ?_⟩
  refine List.forall_mem_cons.mpr ⟨fun _ _ _ _ _ _ _ _ _ _ _ _ _ _ _ _ _ _ X => so_last X (by decide +kernel), ?_⟩
  refine List.forall_mem_cons.mpr ⟨fun _ _ _ _ _ _ _ _ _ _ _ _ _ _ _ _ _ _ X => so_aload_n (k := 0) X (by decide +kernel), ?_⟩
  refine List.forall_mem_cons.mpr ⟨fun _ _ _ _ _ _ _ _ _ _ _ _ _ _ _ _ _ _ X => so_getR (cn := 0) (k := 3) X rfl (by omega) wq_192 (fun _ _ => rfl) (by decide +kernel), ?_⟩
  refine List.forall_mem_cons.mpr ⟨fun _ _ _ _ _ _ _ _ _ _ _ _ _ _ _ _ _ _ X => so_iconst (n := 0) X (by decide +kernel), ?_⟩
  refine List.forall_mem_cons.mpr ⟨fun _ _ _ _ _ _ _ _ _ _ _ _ _ _ _ _ _ _ X => so_iconst (n := 0) X (by decide +kernel), ?_⟩
  refine List.forall_mem_cons.mpr ⟨fun _ _ _ _ _ _ _ _ _ _ _ _ _ _ _ _ _ _ X => so_iast X (by decide +kernel), ?_⟩
  refine List.forall_mem_cons.mpr ⟨fun _ _ _ _ _ _ _ _ _ _ _ _ _ _ _ _ _ _ X => so_iconst (n := 0) X (by decide +kernel), ?_⟩
  refine List.forall_mem_cons.mpr ⟨fun _ _ _ _ _ _ _ _ _ _ _ _ _ _ _ _ _ _ X => so_istore_n (k := 1) X (by decide +kernel), ?_⟩
  refine List.forall_mem_cons.mpr ⟨fun _ _ _ _ _ _ _ _ _ _ _ _ _ _ _ _ _ _ X => so_iload_n (k := 1) X (by decide +kernel), ?_⟩
  refine List.forall_mem_cons.mpr ⟨fun _ _ _ _ _ _ _ _ _ _ _ _ _ _ _ _ _ _ X => so_aload_n (k := 0) X (by decide +kernel), ?_⟩
  refine List.forall_mem_cons.mpr ⟨fun _ _ _ _ _ _ _ _ _ _ _ _ _ _ _ _ _ _ X => so_getR (cn := 0) (k := 0) X rfl (by omega) wq_189 (fun _ _ => rfl) (by decide +kernel), ?_⟩
  refine List.forall_mem_cons.mpr ⟨fun _ _ _ _ _ _ _ _ _ _ _ _ _ _ _ _ _ _ X => so_callV (i := 22) (cn := 2) (n := 0) X rfl rfl rfl wq_396 wq_397 wq_398 wq_24 wd_22 wc_22 (by decide +kernel), ?_⟩
  refine List.forall_mem_cons.mpr ⟨fun _ _ _ _ _ _ _ _ _ _ _ _ _ _ _ _ _ _ X => so_icmp_ge (off := 16) (tgt := 40) X (by decide +kernel) (by decide), ?_⟩
  refine List.forall_mem_cons.mpr ⟨fun _ _ _ _ _ _ _ _ _ _ _ _ _ _ _ _ _ _ X => so_aload_n (k := 0) X (by decide +kernel), ?_⟩
  refine List.forall_mem_cons.mpr ⟨fun _ _ _ _ _ _ _ _ _ _ _ _ _ _ _ _ _ _ X => so_getR (cn := 0) (k := 1) X rfl (by omega) wq_190 (fun _ _ => rfl) (by decide +kernel), ?_⟩
  refine List.forall_mem_cons.mpr ⟨fun _ _ _ _ _ _ _ _ _ _ _ _ _ _ _ _ _ _ X => so_iload_n (k := 1) X (by decide +kernel), ?_⟩
  refine List.forall_mem_cons.mpr ⟨fun _ _ _ _ _ _ _ _ _ _ _ _ _ _ _ _ _ _ X => so_iconst (n := 0) X (by decide +kernel), ?_⟩
  refine List.forall_mem_cons.mpr ⟨fun _ _ _ _ _ _ _ _ _ _ _ _ _ _ _ _ _ _ X => so_iast X (by decide +kernel), ?_⟩
  refine List.forall_mem_cons.mpr ⟨fun _ _ _ _ _ _ _ _ _ _ _ _ _ _ _ _ _ _ X => so_iinc (k := 1) (n := 1) X (by decide +kernel), ?_⟩
  refine List.forall_mem_cons.mpr ⟨fun _ _ _ _ _ _ _ _ _ _ _ _ _ _ _ _ _ _ X => so_goto (off := -21) (tgt := 16) X (by decide +kernel) (by decide), ?_⟩
  refine List.forall_mem_cons.mpr ⟨fun _ _ _ _ _ _ _ _ _ _ _ _ _ _ _ _ _ _ X => so_aload_n (k := 0) X (by decide +kernel), ?_⟩
  refine List.forall_mem_cons.mpr ⟨fun _ _ _ _ _ _ _ _ _ _ _ _ _ _ _ _ _ _ X => so_iconst (n := 0) X (by decide +kernel), ?_⟩
  refine List.forall_mem_cons.mpr ⟨fun _ _ _ _ _ _ _ _ _ _ _ _ _ _ _ _ _ _ X => so_callV (i := 6) (cn := 0) (n := 1) X rfl rfl rfl wq_408 wq_410 ws_X0_weighFrom wq_28 wd_6 wc_6 (by decide +kernel), ?_⟩
  refine List.forall_mem_cons.mpr ⟨fun _ _ _ _ _ _ _ _ _ _ _ _ _ _ _ _ _ _ X => so_vret X rfl (by decide +kernel), ?_⟩
  exact fun _ h => absurd h List.not_mem_nil
set_option maxRecDepth 100000 in
set_option maxHeartbeats 4000000 in
theorem sj_5 {L : Nat} {xs : Nat → Int32} : ∀ q ∈ cd_5, SJ L xs (md_5) q := by
  refine List.forall_mem_cons.mpr ⟨fun _ _ _ _ _ _ _ _ _ _ _ _ _ _ _ _ _ _ X => so_aload_n (k := 0) X (by decide +kernel), ?_⟩
  refine List.forall_mem_cons.mpr ⟨fun _ _ _ _ _ _ _ _ _ _ _ _ _ _ _ _ _ _ X => so_getR (cn := 0) (k := 0) X rfl (by omega) wq_189 (fun _ _ => rfl) (by decide +kernel), ?_⟩
  refine List.forall_mem_cons.mpr ⟨fun _ _ _ _ _ _ _ _ _ _ _ _ _ _ _ _ _ _ X => so_callV (i := 22) (cn := 2) (n := 0) X rfl rfl rfl wq_396 wq_397 wq_398 wq_24 wd_22 wc_22 (by decide +kernel), ?_⟩
  refine List.forall_mem_cons.mpr ⟨fun _ _ _ _ _ _ _ _ _ _ _ _ _ _ _ _ _ _ X => so_iconst (n := 1) X (by decide +kernel), ?_⟩
  refine List.forall_mem_cons.mpr ⟨fun _ _ _ _ _ _ _ _ _ _ _ _ _ _ _ _ _ _ X => so_isub X (by decide +kernel), ?_⟩
  refine List.forall_mem_cons.mpr ⟨fun _ _ _ _ _ _ _ _ _ _ _ _ _ _ _ _ _ _ X => so_istore_n (k := 1) X (by decide +kernel), ?_⟩
  refine List.forall_mem_cons.mpr ⟨fun _ _ _ _ _ _ _ _ _ _ _ _ _ _ _ _ _ _ X => so_iload_n (k := 1) X (by decide +kernel), ?_⟩
  refine List.forall_mem_cons.mpr ⟨fun _ _ _ _ _ _ _ _ _ _ _ _ _ _ _ _ _ _ X => so_if_le (off := 26) (tgt := 37) X (by decide +kernel) (by decide), ?_⟩
  refine List.forall_mem_cons.mpr ⟨fun _ _ _ _ _ _ _ _ _ _ _ _ _ _ _ _ _ _ X => so_aload_n (k := 0) X (by decide +kernel), ?_⟩
  refine List.forall_mem_cons.mpr ⟨fun _ _ _ _ _ _ _ _ _ _ _ _ _ _ _ _ _ _ X => so_getR (cn := 0) (k := 1) X rfl (by omega) wq_190 (fun _ _ => rfl) (by decide +kernel), ?_⟩
  refine List.forall_mem_cons.mpr ⟨fun _ _ _ _ _ _ _ _ _ _ _ _ _ _ _ _ _ _ X => so_iload_n (k := 1) X (by decide +kernel), ?_⟩
  refine List.forall_mem_cons.mpr ⟨fun _ _ _ _ _ _ _ _ _ _ _ _ _ _ _ _ _ _ X => so_iald X (by decide +kernel), ?_⟩
  refine List.forall_mem_cons.mpr ⟨fun _ _ _ _ _ _ _ _ _ _ _ _ _ _ _ _ _ _ X => so_iconst (n := 4) X (by decide +kernel), ?_⟩
  refine List.forall_mem_cons.mpr ⟨fun _ _ _ _ _ _ _ _ _ _ _ _ _ _ _ _ _ _ X => so_icmp_ne (off := 16) (tgt := 37) X (by decide +kernel) (by decide), ?_⟩
  refine List.forall_mem_cons.mpr ⟨fun _ _ _ _ _ _ _ _ _ _ _ _ _ _ _ _ _ _ X => so_aload_n (k := 0) X (by decide +kernel), ?_⟩
  refine List.forall_mem_cons.mpr ⟨fun _ _ _ _ _ _ _ _ _ _ _ _ _ _ _ _ _ _ X => so_getR (cn := 0) (k := 1) X rfl (by omega) wq_190 (fun _ _ => rfl) (by decide +kernel), ?_⟩
  refine List.forall_mem_cons.mpr ⟨fun _ _ _ _ _ _ _ _ _ _ _ _ _ _ _ _ _ _ X => so_iload_n (k := 1) X (by decide +kernel), ?_⟩
  refine List.forall_mem_cons.mpr ⟨fun _ _ _ _ _ _ _ _ _ _ _ _ _ _ _ _ _ _ X => so_iconst (n := 0) X (by decide +kernel), ?_⟩
  refine List.forall_mem_cons.mpr ⟨fun _ _ _ _ _ _ _ _ _ _ _ _ _ _ _ _ _ _ X => so_iast X (by decide +kernel), ?_⟩
  refine List.forall_mem_cons.mpr ⟨fun _ _ _ _ _ _ _ _ _ _ _ _ _ _ _ _ _ _ X => so_iinc (k := 1) (n := (-1)) X (by decide +kernel), ?_⟩
  refine List.forall_mem_cons.mpr ⟨fun _ _ _ _ _ _ _ _ _ _ _ _ _ _ _ _ _ _ X => so_goto (off := -24) (tgt := 10) X (by decide +kernel) (by decide), ?_⟩
  refine List.forall_mem_cons.mpr ⟨fun _ _ _ _ _ _ _ _ _ _ _ _ _ _ _ _ _ _ X => so_iload_n (k := 1) X (by decide +kernel), ?_⟩
  refine List.forall_mem_cons.mpr ⟨fun _ _ _ _ _ _ _ _ _ _ _ _ _ _ _ _ _ _ X => so_if_lt (off := 28) (tgt := 66) X (by decide +kernel) (by decide), ?_⟩
  refine List.forall_mem_cons.mpr ⟨fun _ _ _ _ _ _ _ _ _ _ _ _ _ _ _ _ _ _ X => so_aload_n (k := 0) X (by decide +kernel), ?_⟩
  refine List.forall_mem_cons.mpr ⟨fun _ _ _ _ _ _ _ _ _ _ _ _ _ _ _ _ _ _ X => so_getR (cn := 0) (k := 1) X rfl (by omega) wq_190 (fun _ _ => rfl) (by decide +kernel), ?_⟩
  refine List.forall_mem_cons.mpr ⟨fun _ _ _ _ _ _ _ _ _ _ _ _ _ _ _ _ _ _ X => so_iload_n (k := 1) X (by decide +kernel), ?_⟩
  refine List.forall_mem_cons.mpr ⟨fun _ _ _ _ _ _ _ _ _ _ _ _ _ _ _ _ _ _ X => so_iald X (by decide +kernel), ?_⟩
  refine List.forall_mem_cons.mpr ⟨fun _ _ _ _ _ _ _ _ _ _ _ _ _ _ _ _ _ _ X => so_iconst (n := 4) X (by decide +kernel), ?_⟩
  refine List.forall_mem_cons.mpr ⟨fun _ _ _ _ _ _ _ _ _ _ _ _ _ _ _ _ _ _ X => so_icmp_ge (off := 18) (tgt := 66) X (by decide +kernel) (by decide), ?_⟩
  refine List.forall_mem_cons.mpr ⟨fun _ _ _ _ _ _ _ _ _ _ _ _ _ _ _ _ _ _ X => so_aload_n (k := 0) X (by decide +kernel), ?_⟩
  refine List.forall_mem_cons.mpr ⟨fun _ _ _ _ _ _ _ _ _ _ _ _ _ _ _ _ _ _ X => so_getR (cn := 0) (k := 1) X rfl (by omega) wq_190 (fun _ _ => rfl) (by decide +kernel), ?_⟩
  refine List.forall_mem_cons.mpr ⟨fun _ _ _ _ _ _ _ _ _ _ _ _ _ _ _ _ _ _ X => so_iload_n (k := 1) X (by decide +kernel), ?_⟩
  refine List.forall_mem_cons.mpr ⟨fun _ _ _ _ _ _ _ _ _ _ _ _ _ _ _ _ _ _ X => so_dup2 X (by decide +kernel), ?_⟩
  refine List.forall_mem_cons.mpr ⟨fun _ _ _ _ _ _ _ _ _ _ _ _ _ _ _ _ _ _ X => so_iald X (by decide +kernel), ?_⟩
  refine List.forall_mem_cons.mpr ⟨fun _ _ _ _ _ _ _ _ _ _ _ _ _ _ _ _ _ _ X => so_iconst (n := 1) X (by decide +kernel), ?_⟩
  refine List.forall_mem_cons.mpr ⟨fun _ _ _ _ _ _ _ _ _ _ _ _ _ _ _ _ _ _ X => so_iadd X (by decide +kernel), ?_⟩
  refine List.forall_mem_cons.mpr ⟨fun _ _ _ _ _ _ _ _ _ _ _ _ _ _ _ _ _ _ X => so_iast X (by decide +kernel), ?_⟩
  refine List.forall_mem_cons.mpr ⟨fun _ _ _ _ _ _ _ _ _ _ _ _ _ _ _ _ _ _ X => so_aload_n (k := 0) X (by decide +kernel), ?_⟩
  refine List.forall_mem_cons.mpr ⟨fun _ _ _ _ _ _ _ _ _ _ _ _ _ _ _ _ _ _ X => so_iload_n (k := 1) X (by decide +kernel), ?_⟩
  refine List.forall_mem_cons.mpr ⟨fun _ _ _ _ _ _ _ _ _ _ _ _ _ _ _ _ _ _ X => so_callV (i := 6) (cn := 0) (n := 1) X rfl rfl rfl wq_408 wq_410 ws_X0_weighFrom wq_28 wd_6 wc_6 (by decide +kernel), ?_⟩
  refine List.forall_mem_cons.mpr ⟨fun _ _ _ _ _ _ _ _ _ _ _ _ _ _ _ _ _ _ X => so_vret X rfl (by decide +kernel), ?_⟩
  exact fun _ h => absurd h List.not_mem_nil
set_option maxRecDepth 100000 in
set_option maxHeartbeats 4000000 in
theorem sj_6 {L : Nat} {xs : Nat → Int32} : ∀ q ∈ cd_6, SJ L xs (md_6) q := by
  refine List.forall_mem_cons.mpr ⟨fun _ _ _ _ _ _ _ _ _ _ _ _ _ _ _ _ _ _ X => so_iload_n (k := 1) X (by decide +kernel), ?_⟩
  refine List.forall_mem_cons.mpr ⟨fun _ _ _ _ _ _ _ _ _ _ _ _ _ _ _ _ _ _ X => so_istore_n (k := 2) X (by decide +kernel), ?_⟩
  refine List.forall_mem_cons.mpr ⟨fun _ _ _ _ _ _ _ _ _ _ _ _ _ _ _ _ _ _ X => so_iload_n (k := 2) X (by decide +kernel), ?_⟩
  refine List.forall_mem_cons.mpr ⟨fun _ _ _ _ _ _ _ _ _ _ _ _ _ _ _ _ _ _ X => so_aload_n (k := 0) X (by decide +kernel), ?_⟩
  refine List.forall_mem_cons.mpr ⟨fun _ _ _ _ _ _ _ _ _ _ _ _ _ _ _ _ _ _ X => so_getR (cn := 0) (k := 0) X rfl (by omega) wq_189 (fun _ _ => rfl) (by decide +kernel), ?_⟩
  refine List.forall_mem_cons.mpr ⟨fun _ _ _ _ _ _ _ _ _ _ _ _ _ _ _ _ _ _ X => so_callV (i := 22) (cn := 2) (n := 0) X rfl rfl rfl wq_396 wq_397 wq_398 wq_24 wd_22 wc_22 (by decide +kernel), ?_⟩
  refine List.forall_mem_cons.mpr ⟨fun _ _ _ _ _ _ _ _ _ _ _ _ _ _ _ _ _ _ X => so_icmp_ge (off := 79) (tgt := 89) X (by decide +kernel) (by decide), ?_⟩
  refine List.forall_mem_cons.mpr ⟨fun _ _ _ _ _ _ _ _ _ _ _ _ _ _ _ _ _ _ X => so_iload_n (k := 2) X (by decide +kernel), ?_⟩
  refine List.forall_mem_cons.mpr ⟨fun _ _ _ _ _ _ _ _ _ _ _ _ _ _ _ _ _ _ X => so_if_le (off := 14) (tgt := 28) X (by decide +kernel) (by decide), ?_⟩
  refine List.forall_mem_cons.mpr ⟨fun _ _ _ _ _ _ _ _ _ _ _ _ _ _ _ _ _ _ X => so_aload_n (k := 0) X (by decide +kernel), ?_⟩
  refine List.forall_mem_cons.mpr ⟨fun _ _ _ _ _ _ _ _ _ _ _ _ _ _ _ _ _ _ X => so_getR (cn := 0) (k := 1) X rfl (by omega) wq_190 (fun _ _ => rfl) (by decide +kernel), ?_⟩
  refine List.forall_mem_cons.mpr ⟨fun _ _ _ _ _ _ _ _ _ _ _ _ _ _ _ _ _ _ X => so_iload_n (k := 2) X (by decide +kernel), ?_⟩
  refine List.forall_mem_cons.mpr ⟨fun _ _ _ _ _ _ _ _ _ _ _ _ _ _ _ _ _ _ X => so_iconst (n := 1) X (by decide +kernel), ?_⟩
  refine List.forall_mem_cons.mpr ⟨fun _ _ _ _ _ _ _ _ _ _ _ _ _ _ _ _ _ _ X => so_isub X (by decide +kernel), ?_⟩
  refine List.forall_mem_cons.mpr ⟨fun _ _ _ _ _ _ _ _ _ _ _ _ _ _ _ _ _ _ X => so_iald X (by decide +kernel), ?_⟩
  refine List.forall_mem_cons.mpr ⟨fun _ _ _ _ _ _ _ _ _ _ _ _ _ _ _ _ _ _ X => so_goto (off := 4) (tgt := 29) X (by decide +kernel) (by decide), ?_⟩
  refine List.forall_mem_cons.mpr ⟨fun _ _ _ _ _ _ _ _ _ _ _ _ _ _ _ _ _ _ X => so_iconst (n := (-1)) X (by decide +kernel), ?_⟩
  refine List.forall_mem_cons.mpr ⟨fun _ _ _ _ _ _ _ _ _ _ _ _ _ _ _ _ _ _ X => so_istore_n (k := 3) X (by decide +kernel), ?_⟩
  refine List.forall_mem_cons.mpr ⟨fun _ _ _ _ _ _ _ _ _ _ _ _ _ _ _ _ _ _ X => so_aload_n (k := 0) X (by decide +kernel), ?_⟩
  refine List.forall_mem_cons.mpr ⟨fun _ _ _ _ _ _ _ _ _ _ _ _ _ _ _ _ _ _ X => so_getR (cn := 0) (k := 2) X rfl (by omega) wq_191 (fun _ _ => rfl) (by decide +kernel), ?_⟩
  refine List.forall_mem_cons.mpr ⟨fun _ _ _ _ _ _ _ _ _ _ _ _ _ _ _ _ _ _ X => so_iload_n (k := 2) X (by decide +kernel), ?_⟩
  refine List.forall_mem_cons.mpr ⟨fun _ _ _ _ _ _ _ _ _ _ _ _ _ _ _ _ _ _ X => so_iconst (n := 1) X (by decide +kernel), ?_⟩
  refine List.forall_mem_cons.mpr ⟨fun _ _ _ _ _ _ _ _ _ _ _ _ _ _ _ _ _ _ X => so_iadd X (by decide +kernel), ?_⟩
  refine List.forall_mem_cons.mpr ⟨fun _ _ _ _ _ _ _ _ _ _ _ _ _ _ _ _ _ _ X => so_aload_n (k := 0) X (by decide +kernel), ?_⟩
  refine List.forall_mem_cons.mpr ⟨fun _ _ _ _ _ _ _ _ _ _ _ _ _ _ _ _ _ _ X => so_getR (cn := 0) (k := 2) X rfl (by omega) wq_191 (fun _ _ => rfl) (by decide +kernel), ?_⟩
  refine List.forall_mem_cons.mpr ⟨fun _ _ _ _ _ _ _ _ _ _ _ _ _ _ _ _ _ _ X => so_iload_n (k := 2) X (by decide +kernel), ?_⟩
  refine List.forall_mem_cons.mpr ⟨fun _ _ _ _ _ _ _ _ _ _ _ _ _ _ _ _ _ _ X => so_lald X (by decide +kernel), ?_⟩
  refine List.forall_mem_cons.mpr ⟨fun _ _ _ _ _ _ _ _ _ _ _ _ _ _ _ _ _ _ X => so_aload_n (k := 0) X (by decide +kernel), ?_⟩
  refine List.forall_mem_cons.mpr ⟨fun _ _ _ _ _ _ _ _ _ _ _ _ _ _ _ _ _ _ X => so_getR (cn := 0) (k := 0) X rfl (by omega) wq_189 (fun _ _ => rfl) (by decide +kernel), ?_⟩
  refine List.forall_mem_cons.mpr ⟨fun _ _ _ _ _ _ _ _ _ _ _ _ _ _ _ _ _ _ X => so_iload_n (k := 2) X (by decide +kernel), ?_⟩
  refine List.forall_mem_cons.mpr ⟨fun _ _ _ _ _ _ _ _ _ _ _ _ _ _ _ _ _ _ X => so_iload_n (k := 3) X (by decide +kernel), ?_⟩
  refine List.forall_mem_cons.mpr ⟨fun _ _ _ _ _ _ _ _ _ _ _ _ _ _ _ _ _ _ X => so_aload_n (k := 0) X (by decide +kernel), ?_⟩
  refine List.forall_mem_cons.mpr ⟨fun _ _ _ _ _ _ _ _ _ _ _ _ _ _ _ _ _ _ X => so_getR (cn := 0) (k := 1) X rfl (by omega) wq_190 (fun _ _ => rfl) (by decide +kernel), ?_⟩
  refine List.forall_mem_cons.mpr ⟨fun _ _ _ _ _ _ _ _ _ _ _ _ _ _ _ _ _ _ X => so_iload_n (k := 2) X (by decide +kernel), ?_⟩
  refine List.forall_mem_cons.mpr ⟨fun _ _ _ _ _ _ _ _ _ _ _ _ _ _ _ _ _ _ X => so_iald X (by decide +kernel), ?_⟩
  refine List.forall_mem_cons.mpr ⟨fun _ _ _ _ _ _ _ _ _ _ _ _ _ _ _ _ _ _ X => so_callV (i := 25) (cn := 2) (n := 3) X rfl rfl rfl wq_412 wq_413 wq_414 wq_24 wd_25 wc_25 (by decide +kernel), ?_⟩
  refine List.forall_mem_cons.mpr ⟨fun _ _ _ _ _ _ _ _ _ _ _ _ _ _ _ _ _ _ X => so_lmul X (by decide +kernel), ?_⟩
  refine List.forall_mem_cons.mpr ⟨fun _ _ _ _ _ _ _ _ _ _ _ _ _ _ _ _ _ _ X => so_last X (by decide +kernel), ?_⟩
  refine List.forall_mem_cons.mpr ⟨fun _ _ _ _ _ _ _ _ _ _ _ _ _ _ _ _ _ _ X => so_aload_n (k := 0) X (by decide +kernel), ?_⟩
  refine List.forall_mem_cons.mpr ⟨fun _ _ _ _ _ _ _ _ _ _ _ _ _ _ _ _ _ _ X => so_getR (cn := 0) (k := 3) X rfl (by omega) wq_192 (fun _ _ => rfl) (by decide +kernel), ?_⟩
  refine List.forall_mem_cons.mpr ⟨fun _ _ _ _ _ _ _ _ _ _ _ _ _ _ _ _ _ _ X => so_iload_n (k := 2) X (by decide +kernel), ?_⟩
  refine List.forall_mem_cons.mpr ⟨fun _ _ _ _ _ _ _ _ _ _ _ _ _ _ _ _ _ _ X => so_iconst (n := 1) X (by decide +kernel), ?_⟩
  refine List.forall_mem_cons.mpr ⟨fun _ _ _ _ _ _ _ _ _ _ _ _ _ _ _ _ _ _ X => so_iadd X (by decide +kernel), ?_⟩
  refine List.forall_mem_cons.mpr ⟨fun _ _ _ _ _ _ _ _ _ _ _ _ _ _ _ _ _ _ X => so_aload_n (k := 0) X (by decide +kernel), ?_⟩
  refine List.forall_mem_cons.mpr ⟨fun _ _ _ _ _ _ _ _ _ _ _ _ _ _ _ _ _ _ X => so_getR (cn := 0) (k := 3) X rfl (by omega) wq_192 (fun _ _ => rfl) (by decide +kernel), ?_⟩
  refine List.forall_mem_cons.mpr ⟨fun _ _ _ _ _ _ _ _ _ _ _ _ _ _ _ _ _ _ X => so_iload_n (k := 2) X (by decide +kernel), ?_⟩
  refine List.forall_mem_cons.mpr ⟨fun _ _ _ _ _ _ _ _ _ _ _ _ _ _ _ _ _ _ X => so_iald X (by decide +kernel), ?_⟩
  refine List.forall_mem_cons.mpr ⟨fun _ _ _ _ _ _ _ _ _ _ _ _ _ _ _ _ _ _ X => so_aload_n (k := 0) X (by decide +kernel), ?_⟩
  refine List.forall_mem_cons.mpr ⟨fun _ _ _ _ _ _ _ _ _ _ _ _ _ _ _ _ _ _ X => so_getR (cn := 0) (k := 1) X rfl (by omega) wq_190 (fun _ _ => rfl) (by decide +kernel), ?_⟩
  refine List.forall_mem_cons.mpr ⟨fun _ _ _ _ _ _ _ _ _ _ _ _ _ _ _ _ _ _ X => so_iload_n (k := 2) X (by decide +kernel), ?_⟩
  refine List.forall_mem_cons.mpr ⟨fun _ _ _ _ _ _ _ _ _ _ _ _ _ _ _ _ _ _ X => so_iald X (by decide +kernel), ?_⟩
  refine List.forall_mem_cons.mpr ⟨fun _ _ _ _ _ _ _ _ _ _ _ _ _ _ _ _ _ _ X => so_callS (i := 35) (n := 2) X rfl wq_416 wq_417 wq_27 wd_35 wc_35 (by decide +kernel), ?_⟩
  refine List.forall_mem_cons.mpr ⟨fun _ _ _ _ _ _ _ _ _ _ _ _ _ _ _ _ _ _ X => so_iast X (by decide +kernel), ?_⟩
  refine List.forall_mem_cons.mpr ⟨fun _ _ _ _ _ _ _ _ _ _ _ _ _ _ _ _ _ _ X => so_iinc (k := 2) (n := 1) X (by decide +kernel), ?_⟩
  refine List.forall_mem_cons.mpr ⟨fun _ _ _ _ _ _ _ _ _ _ _ _ _ _ _ _ _ _ X => so_goto (off := -84) (tgt := 2) X (by decide +kernel) (by decide), ?_⟩
  refine List.forall_mem_cons.mpr ⟨fun _ _ _ _ _ _ _ _ _ _ _ _ _ _ _ _ _ _ X => so_vret X rfl (by decide +kernel), ?_⟩
  exact fun _ h => absurd h List.not_mem_nil
set_option maxRecDepth 100000 in
set_option maxHeartbeats 4000000 in
theorem sj_7 {L : Nat} {xs : Nat → Int32} : ∀ q ∈ cd_7, SJ L xs (md_7) q := by
  refine List.forall_mem_cons.mpr ⟨fun _ _ _ _ _ _ _ _ _ _ _ _ _ _ _ _ _ _ X => so_aload_n (k := 0) X (by decide +kernel), ?_⟩
  refine List.forall_mem_cons.mpr ⟨fun _ _ _ _ _ _ _ _ _ _ _ _ _ _ _ _ _ _ X => so_objinit X wq_62 wq_42 wq_objinit (by decide +kernel), ?_⟩
  refine List.forall_mem_cons.mpr ⟨fun _ _ _ _ _ _ _ _ _ _ _ _ _ _ _ _ _ _ X => so_aload_n (k := 0) X (by decide +kernel), ?_⟩
  refine List.forall_mem_cons.mpr ⟨fun _ _ _ _ _ _ _ _ _ _ _ _ _ _ _ _ _ _ X => so_bipush (n := 21) X (by decide +kernel) (by decide +kernel), ?_⟩
  refine List.forall_mem_cons.mpr ⟨fun _ _ _ _ _ _ _ _ _ _ _ _ _ _ _ _ _ _ X => so_anew (t := 6) (C := "Trellistag$Text") X (by omega) rfl (by simp [w_over]) wq_63 (by decide +kernel), ?_⟩
  refine List.forall_mem_cons.mpr ⟨fun _ _ _ _ _ _ _ _ _ _ _ _ _ _ _ _ _ _ X => so_putR (cn := 1) (k := 0) X rfl (by omega) wq_89 rfl rfl rfl (by first | exact Or.inl ⟨_, rfl⟩ | exact Or.inr ⟨_, rfl⟩) (by decide +kernel), ?_⟩
  refine List.forall_mem_cons.mpr ⟨fun _ _ _ _ _ _ _ _ _ _ _ _ _ _ _ _ _ _ X => so_aload_n (k := 0) X (by decide +kernel), ?_⟩
  refine List.forall_mem_cons.mpr ⟨fun _ _ _ _ _ _ _ _ _ _ _ _ _ _ _ _ _ _ X => so_iconst (n := 5) X (by decide +kernel), ?_⟩
  refine List.forall_mem_cons.mpr ⟨fun _ _ _ _ _ _ _ _ _ _ _ _ _ _ _ _ _ _ X => so_newa_i X wq_88 (by decide +kernel), ?_⟩
  refine List.forall_mem_cons.mpr ⟨fun _ _ _ _ _ _ _ _ _ _ _ _ _ _ _ _ _ _ X => so_putR (cn := 1) (k := 1) X rfl (by omega) wq_90 rfl rfl rfl (by first | exact Or.inl ⟨_, rfl⟩ | exact Or.inr ⟨_, rfl⟩) (by decide +kernel), ?_⟩
  refine List.forall_mem_cons.mpr ⟨fun _ _ _ _ _ _ _ _ _ _ _ _ _ _ _ _ _ _ X => so_aload_n (k := 0) X (by decide +kernel), ?_⟩
  refine List.forall_mem_cons.mpr ⟨fun _ _ _ _ _ _ _ _ _ _ _ _ _ _ _ _ _ _ X => so_iconst (n := 5) X (by decide +kernel), ?_⟩
  refine List.forall_mem_cons.mpr ⟨fun _ _ _ _ _ _ _ _ _ _ _ _ _ _ _ _ _ _ X => so_iconst (n := 5) X (by decide +kernel), ?_⟩
  refine List.forall_mem_cons.mpr ⟨fun _ _ _ _ _ _ _ _ _ _ _ _ _ _ _ _ _ _ X => so_mna_i X wq_65 (by decide +kernel), ?_⟩
  refine List.forall_mem_cons.mpr ⟨fun _ _ _ _ _ _ _ _ _ _ _ _ _ _ _ _ _ _ X => so_putR (cn := 1) (k := 2) X rfl (by omega) wq_91 rfl rfl rfl (by first | exact Or.inl ⟨_, rfl⟩ | exact Or.inr ⟨_, rfl⟩) (by decide +kernel), ?_⟩
  refine List.forall_mem_cons.mpr ⟨fun _ _ _ _ _ _ _ _ _ _ _ _ _ _ _ _ _ _ X => so_iconst (n := 0) X (by decide +kernel), ?_⟩
  refine List.forall_mem_cons.mpr ⟨fun _ _ _ _ _ _ _ _ _ _ _ _ _ _ _ _ _ _ X => so_istore_n (k := 1) X (by decide +kernel), ?_⟩
  refine List.forall_mem_cons.mpr ⟨fun _ _ _ _ _ _ _ _ _ _ _ _ _ _ _ _ _ _ X => so_iload_n (k := 1) X (by decide +kernel), ?_⟩
  refine List.forall_mem_cons.mpr ⟨fun _ _ _ _ _ _ _ _ _ _ _ _ _ _ _ _ _ _ X => so_bipush (n := 20) X (by decide +kernel) (by decide +kernel), ?_⟩
  refine List.forall_mem_cons.mpr ⟨fun _ _ _ _ _ _ _ _ _ _ _ _ _ _ _ _ _ _ X => so_icmp_gt (off := 22) (tgt := 57) X (by decide +kernel) (by decide), ?_⟩
  refine List.forall_mem_cons.mpr ⟨fun _ _ _ _ _ _ _ _ _ _ _ _ _ _ _ _ _ _ X => so_aload_n (k := 0) X (by decide +kernel), ?_⟩
  refine List.forall_mem_cons.mpr ⟨fun _ _ _ _ _ _ _ _ _ _ _ _ _ _ _ _ _ _ X => so_getR (cn := 1) (k := 0) X rfl (by omega) wq_89 (fun _ _ => rfl) (by decide +kernel), ?_⟩
  refine List.forall_mem_cons.mpr ⟨fun _ _ _ _ _ _ _ _ _ _ _ _ _ _ _ _ _ _ X => so_iload_n (k := 1) X (by decide +kernel), ?_⟩
  refine List.forall_mem_cons.mpr ⟨fun _ _ _ _ _ _ _ _ _ _ _ _ _ _ _ _ _ _ X => so_new (cn := 5) X rfl wq_63 wq_67 wq_22 (by decide +kernel), ?_⟩
  refine List.forall_mem_cons.mpr ⟨fun _ _ _ _ _ _ _ _ _ _ _ _ _ _ _ _ _ _ X => so_dup X (by decide +kernel), ?_⟩
  refine List.forall_mem_cons.mpr ⟨fun _ _ _ _ _ _ _ _ _ _ _ _ _ _ _ _ _ _ X => so_callIN (i := 44) (cn := 5) (n := 0) X rfl rfl rfl wq_68 wq_69 wq_22 wd_44 wc_44 (by decide +kernel), ?_⟩
  refine List.forall_mem_cons.mpr ⟨fun _ _ _ _ _ _ _ _ _ _ _ _ _ _ _ _ _ _ X => so_aast (t := 6) (cn := 5) X (by omega) rfl rfl (by decide +kernel), ?_⟩
  refine List.forall_mem_cons.mpr ⟨fun _ _ _ _ _ _ _ _ _ _ _ _ _ _ _ _ _ _ X => so_iinc (k := 1) (n := 1) X (by decide +kernel), ?_⟩
  refine List.forall_mem_cons.mpr ⟨fun _ _ _ _ _ _ _ _ _ _ _ _ _ _ _ _ _ _ X => so_goto (off := -22) (tgt := 32) X (by decide +kernel) (by decide), ?_⟩
  refine List.forall_mem_cons.mpr ⟨fun _ _ _ _ _ _ _ _ _ _ _ _ _ _ _ _ _ _ X => so_vret X rfl (by decide +kernel), ?_⟩
  exact fun _ h => absurd h List.not_mem_nil
set_option maxRecDepth 100000 in
set_option maxHeartbeats 4000000 in
theorem sj_8 {L : Nat} {xs : Nat → Int32} : ∀ q ∈ cd_8, SJ L xs (md_8) q := by
  refine List.forall_mem_cons.mpr ⟨fun _ _ _ _ _ _ _ _ _ _ _ _ _ _ _ _ _ _ X => so_aload_n (k := 0) X (by decide +kernel), ?_⟩
  refine List.forall_mem_cons.mpr ⟨fun _ _ _ _ _ _ _ _ _ _ _ _ _ _ _ _ _ _ X => so_getR (cn := 1) (k := 0) X rfl (by omega) wq_89 (fun _ _ => rfl) (by decide +kernel), ?_⟩
  refine List.forall_mem_cons.mpr ⟨fun _ _ _ _ _ _ _ _ _ _ _ _ _ _ _ _ _ _ X => so_aload_n (k := 0) X (by decide +kernel), ?_⟩
  refine List.forall_mem_cons.mpr ⟨fun _ _ _ _ _ _ _ _ _ _ _ _ _ _ _ _ _ _ X => so_getI (cn := 1) (k := 3) X rfl (by omega) wq_92 (fun _ _ => rfl) (by decide +kernel), ?_⟩
  refine List.forall_mem_cons.mpr ⟨fun _ _ _ _ _ _ _ _ _ _ _ _ _ _ _ _ _ _ X => so_aald (t := 6) X (by omega) (by omega) (by decide +kernel), ?_⟩
  refine List.forall_mem_cons.mpr ⟨fun _ _ _ _ _ _ _ _ _ _ _ _ _ _ _ _ _ _ X => so_aret X ⟨_, rfl⟩ (by decide +kernel), ?_⟩
  exact fun _ h => absurd h List.not_mem_nil
set_option maxRecDepth 100000 in
set_option maxHeartbeats 4000000 in
theorem sj_9 {L : Nat} {xs : Nat → Int32} : ∀ q ∈ cd_9, SJ L xs (md_9) q := by
  refine List.forall_mem_cons.mpr ⟨fun _ _ _ _ _ _ _ _ _ _ _ _ _ _ _ _ _ _ X => so_aload_n (k := 0) X (by decide +kernel), ?_⟩
  refine List.forall_mem_cons.mpr ⟨fun _ _ _ _ _ _ _ _ _ _ _ _ _ _ _ _ _ _ X => so_getI (cn := 1) (k := 3) X rfl (by omega) wq_92 (fun _ _ => rfl) (by decide +kernel), ?_⟩
  refine List.forall_mem_cons.mpr ⟨fun _ _ _ _ _ _ _ _ _ _ _ _ _ _ _ _ _ _ X => so_bipush (n := 20) X (by decide +kernel) (by decide +kernel), ?_⟩
  refine List.forall_mem_cons.mpr ⟨fun _ _ _ _ _ _ _ _ _ _ _ _ _ _ _ _ _ _ X => so_icmp_lt (off := 7) (tgt := 13) X (by decide +kernel) (by decide), ?_⟩
  refine List.forall_mem_cons.mpr ⟨fun _ _ _ _ _ _ _ _ _ _ _ _ _ _ _ _ _ _ X => so_iconst (n := 1) X (by decide +kernel), ?_⟩
  refine List.forall_mem_cons.mpr ⟨fun _ _ _ _ _ _ _ _ _ _ _ _ _ _ _ _ _ _ X => so_goto (off := 4) (tgt := 14) X (by decide +kernel) (by decide), ?_⟩
  refine List.forall_mem_cons.mpr ⟨fun _ _ _ _ _ _ _ _ _ _ _ _ _ _ _ _ _ _ X => so_iconst (n := 0) X (by decide +kernel), ?_⟩
  refine List.forall_mem_cons.mpr ⟨fun _ _ _ _ _ _ _ _ _ _ _ _ _ _ _ _ _ _ X => so_zret X rfl (by decide +kernel), ?_⟩
  exact fun _ h => absurd h List.not_mem_nil
set_option maxRecDepth 100000 in
set_option maxHeartbeats 4000000 in
theorem sj_10 {L : Nat} {xs : Nat → Int32} : ∀ q ∈ cd_10, SJ L xs (md_10) q := by
  refine List.forall_mem_cons.mpr ⟨fun _ _ _ _ _ _ _ _ _ _ _ _ _ _ _ _ _ _ X => so_iload_n (k := 1) X (by decide +kernel), ?_⟩
  refine List.forall_mem_cons.mpr ⟨fun _ _ _ _ _ _ _ _ _ _ _ _ _ _ _ _ _ _ X => so_if_lt (off := 15) (tgt := 16) X (by decide +kernel) (by decide), ?_⟩
  refine List.forall_mem_cons.mpr ⟨fun _ _ _ _ _ _ _ _ _ _ _ _ _ _ _ _ _ _ X => so_iload_n (k := 1) X (by decide +kernel), ?_⟩
  refine List.forall_mem_cons.mpr ⟨fun _ _ _ _ _ _ _ _ _ _ _ _ _ _ _ _ _ _ X => so_aload_n (k := 0) X (by decide +kernel), ?_⟩
  refine List.forall_mem_cons.mpr ⟨fun _ _ _ _ _ _ _ _ _ _ _ _ _ _ _ _ _ _ X => so_getI (cn := 1) (k := 3) X rfl (by omega) wq_92 (fun _ _ => rfl) (by decide +kernel), ?_⟩
  refine List.forall_mem_cons.mpr ⟨fun _ _ _ _ _ _ _ _ _ _ _ _ _ _ _ _ _ _ X => so_icmp_ge (off := 7) (tgt := 16) X (by decide +kernel) (by decide), ?_⟩
  refine List.forall_mem_cons.mpr ⟨fun _ _ _ _ _ _ _ _ _ _ _ _ _ _ _ _ _ _ X => so_iconst (n := 1) X (by decide +kernel), ?_⟩
  refine List.forall_mem_cons.mpr ⟨fun _ _ _ _ _ _ _ _ _ _ _ _ _ _ _ _ _ _ X => so_goto (off := 4) (tgt := 17) X (by decide +kernel) (by decide), ?_⟩
  refine List.forall_mem_cons.mpr ⟨fun _ _ _ _ _ _ _ _ _ _ _ _ _ _ _ _ _ _ X => so_iconst (n := 0) X (by decide +kernel), ?_⟩
  refine List.forall_mem_cons.mpr ⟨fun _ _ _ _ _ _ _ _ _ _ _ _ _ _ _ _ _ _ X => so_zret X rfl (by decide +kernel), ?_⟩
  exact fun _ h => absurd h List.not_mem_nil
set_option maxRecDepth 100000 in
set_option maxHeartbeats 4000000 in
theorem sj_11 {L : Nat} {xs : Nat → Int32} : ∀ q ∈ cd_11, SJ L xs (md_11) q := by
  refine List.forall_mem_cons.mpr ⟨fun _ _ _ _ _ _ _ _ _ _ _ _ _ _ _ _ _ _ X => so_aload_n (k := 0) X (by decide +kernel), ?_⟩
  refine List.forall_mem_cons.mpr ⟨fun _ _ _ _ _ _ _ _ _ _ _ _ _ _ _ _ _ _ X => so_getI (cn := 1) (k := 4) X rfl (by omega) wq_93 (fun _ _ => rfl) (by decide +kernel), ?_⟩
  refine List.forall_mem_cons.mpr ⟨fun _ _ _ _ _ _ _ _ _ _ _ _ _ _ _ _ _ _ X => so_iret X rfl (by decide +kernel), ?_⟩
  exact fun _ h => absurd h List.not_mem_nil
set_option maxRecDepth 100000 in
set_option maxHeartbeats 4000000 in
theorem sj_12 {L : Nat} {xs : Nat → Int32} : ∀ q ∈ cd_12, SJ L xs (md_12) q := by
  refine List.forall_mem_cons.mpr ⟨fun _ _ _ _ _ _ _ _ _ _ _ _ _ _ _ _ _ _ X => so_aload_n (k := 0) X (by decide +kernel), ?_⟩
  refine List.forall_mem_cons.mpr ⟨fun _ _ _ _ _ _ _ _ _ _ _ _ _ _ _ _ _ _ X => so_getI (cn := 1) (k := 3) X rfl (by omega) wq_92 (fun _ _ => rfl) (by decide +kernel), ?_⟩
  refine List.forall_mem_cons.mpr ⟨fun _ _ _ _ _ _ _ _ _ _ _ _ _ _ _ _ _ _ X => so_istore_n (k := 1) X (by decide +kernel), ?_⟩
  refine List.forall_mem_cons.mpr ⟨fun _ _ _ _ _ _ _ _ _ _ _ _ _ _ _ _ _ _ X => so_aload_n (k := 0) X (by decide +kernel), ?_⟩
  refine List.forall_mem_cons.mpr ⟨fun _ _ _ _ _ _ _ _ _ _ _ _ _ _ _ _ _ _ X => so_dup X (by decide +kernel), ?_⟩
  refine List.forall_mem_cons.mpr ⟨fun _ _ _ _ _ _ _ _ _ _ _ _ _ _ _ _ _ _ X => so_getI (cn := 1) (k := 3) X rfl (by omega) wq_92 (fun _ _ => rfl) (by decide +kernel), ?_⟩
  refine List.forall_mem_cons.mpr ⟨fun _ _ _ _ _ _ _ _ _ _ _ _ _ _ _ _ _ _ X => so_iconst (n := 1) X (by decide +kernel), ?_⟩
  refine List.forall_mem_cons.mpr ⟨fun _ _ _ _ _ _ _ _ _ _ _ _ _ _ _ _ _ _ X => so_iadd X (by decide +kernel), ?_⟩
  refine List.forall_mem_cons.mpr ⟨fun _ _ _ _ _ _ _ _ _ _ _ _ _ _ _ _ _ _ X => so_putI (cn := 1) (k := 3) X rfl (by omega) (Or.inl wq_92) rfl rfl (by decide +kernel), ?_⟩
  refine List.forall_mem_cons.mpr ⟨fun _ _ _ _ _ _ _ _ _ _ _ _ _ _ _ _ _ _ X => so_aload_n (k := 0) X (by decide +kernel), ?_⟩
  refine List.forall_mem_cons.mpr ⟨fun _ _ _ _ _ _ _ _ _ _ _ _ _ _ _ _ _ _ X => so_iload_n (k := 1) X (by decide +kernel), ?_⟩
  refine List.forall_mem_cons.mpr ⟨fun _ _ _ _ _ _ _ _ _ _ _ _ _ _ _ _ _ _ X => so_iconst (n := 1) X (by decide +kernel), ?_⟩
  refine List.forall_mem_cons.mpr ⟨fun _ _ _ _ _ _ _ _ _ _ _ _ _ _ _ _ _ _ X => so_callV (i := 13) (cn := 1) (n := 2) X rfl rfl rfl wq_567 wq_568 wq_569 wq_21 wd_13 wc_13 (by decide +kernel), ?_⟩
  refine List.forall_mem_cons.mpr ⟨fun _ _ _ _ _ _ _ _ _ _ _ _ _ _ _ _ _ _ X => so_pop X (by decide +kernel), ?_⟩
  refine List.forall_mem_cons.mpr ⟨fun _ _ _ _ _ _ _ _ _ _ _ _ _ _ _ _ _ _ X => so_iload_n (k := 1) X (by decide +kernel), ?_⟩
  refine List.forall_mem_cons.mpr ⟨fun _ _ _ _ _ _ _ _ _ _ _ _ _ _ _ _ _ _ X => so_iret X rfl (by decide +kernel), ?_⟩
  exact fun _ h => absurd h List.not_mem_nil
set_option maxRecDepth 100000 in
set_option maxHeartbeats 4000000 in
theorem sj_13 {L : Nat} {xs : Nat → Int32} : ∀ q ∈ cd_13, SJ L xs (md_13) q := by
  refine List.forall_mem_cons.mpr ⟨fun _ _ _ _ _ _ _ _ _ _ _ _ _ _ _ _ _ _ X => so_aload_n (k := 0) X (by decide +kernel), ?_⟩
  refine List.forall_mem_cons.mpr ⟨fun _ _ _ _ _ _ _ _ _ _ _ _ _ _ _ _ _ _ X => so_getR (cn := 1) (k := 0) X rfl (by omega) wq_89 (fun _ _ => rfl) (by decide +kernel), ?_⟩
  refine List.forall_mem_cons.mpr ⟨fun _ _ _ _ _ _ _ _ _ _ _ _ _ _ _ _ _ _ X => so_iload_n (k := 1) X (by decide +kernel), ?_⟩
  refine List.forall_mem_cons.mpr ⟨fun _ _ _ _ _ _ _ _ _ _ _ _ _ _ _ _ _ _ X => so_aald (t := 6) X (by omega) (by omega) (by decide +kernel), ?_⟩
  refine List.forall_mem_cons.mpr ⟨fun _ _ _ _ _ _ _ _ _ _ _ _ _ _ _ _ _ _ X => so_astore_n (k := 3) X (by decide +kernel), ?_⟩
  refine List.forall_mem_cons.mpr ⟨fun _ _ _ _ _ _ _ _ _ _ _ _ _ _ _ _ _ _ X => so_aload_n (k := 3) X (by decide +kernel), ?_⟩
  refine List.forall_mem_cons.mpr ⟨fun _ _ _ _ _ _ _ _ _ _ _ _ _ _ _ _ _ _ X => so_getIN (cn := 5) (k := 3) X rfl (by omega) wq_78 (fun _ _ => rfl) (by decide +kernel), ?_⟩
  refine List.forall_mem_cons.mpr ⟨fun _ _ _ _ _ _ _ _ _ _ _ _ _ _ _ _ _ _ X => so_istore (k := 4) X (by decide +kernel), ?_⟩
  refine List.forall_mem_cons.mpr ⟨fun _ _ _ _ _ _ _ _ _ _ _ _ _ _ _ _ _ _ X => so_iload_n (k := 2) X (by decide +kernel), ?_⟩
  refine List.forall_mem_cons.mpr ⟨fun _ _ _ _ _ _ _ _ _ _ _ _ _ _ _ _ _ _ X => so_iload (k := 4) X (by decide +kernel), ?_⟩
  refine List.forall_mem_cons.mpr ⟨fun _ _ _ _ _ _ _ _ _ _ _ _ _ _ _ _ _ _ X => so_icmp_eq (off := 22) (tgt := 38) X (by decide +kernel) (by decide), ?_⟩
  refine List.forall_mem_cons.mpr ⟨fun _ _ _ _ _ _ _ _ _ _ _ _ _ _ _ _ _ _ X => so_aload_n (k := 3) X (by decide +kernel), ?_⟩
  refine List.forall_mem_cons.mpr ⟨fun _ _ _ _ _ _ _ _ _ _ _ _ _ _ _ _ _ _ X => so_iload_n (k := 2) X (by decide +kernel), ?_⟩
  refine List.forall_mem_cons.mpr ⟨fun _ _ _ _ _ _ _ _ _ _ _ _ _ _ _ _ _ _ X => so_putZ (cn := 5) (k := 3) X rfl (by omega) (Or.inr ⟨_, wq_78⟩) rfl rfl (by decide +kernel), ?_⟩
  refine List.forall_mem_cons.mpr ⟨fun _ _ _ _ _ _ _ _ _ _ _ _ _ _ _ _ _ _ X => so_aload_n (k := 0) X (by decide +kernel), ?_⟩
  refine List.forall_mem_cons.mpr ⟨fun _ _ _ _ _ _ _ _ _ _ _ _ _ _ _ _ _ _ X => so_aload_n (k := 3) X (by decide +kernel), ?_⟩
  refine List.forall_mem_cons.mpr ⟨fun _ _ _ _ _ _ _ _ _ _ _ _ _ _ _ _ _ _ X => so_iload_n (k := 2) X (by decide +kernel), ?_⟩
  refine List.forall_mem_cons.mpr ⟨fun _ _ _ _ _ _ _ _ _ _ _ _ _ _ _ _ _ _ X => so_if_eq (off := 7) (tgt := 34) X (by decide +kernel) (by decide), ?_⟩
  refine List.forall_mem_cons.mpr ⟨fun _ _ _ _ _ _ _ _ _ _ _ _ _ _ _ _ _ _ X => so_iconst (n := 1) X (by decide +kernel), ?_⟩
  refine List.forall_mem_cons.mpr ⟨fun _ _ _ _ _ _ _ _ _ _ _ _ _ _ _ _ _ _ X => so_goto (off := 4) (tgt := 35) X (by decide +kernel) (by decide), ?_⟩
  refine List.forall_mem_cons.mpr ⟨fun _ _ _ _ _ _ _ _ _ _ _ _ _ _ _ _ _ _ X => so_iconst (n := (-1)) X (by decide +kernel), ?_⟩
  refine List.forall_mem_cons.mpr ⟨fun _ _ _ _ _ _ _ _ _ _ _ _ _ _ _ _ _ _ X => so_callV (i := 14) (cn := 1) (n := 2) X rfl rfl rfl wq_571 wq_573 ws_X1_change wq_21 wd_14 wc_14 (by decide +kernel), ?_⟩
  refine List.forall_mem_cons.mpr ⟨fun _ _ _ _ _ _ _ _ _ _ _ _ _ _ _ _ _ _ X => so_iload (k := 4) X (by decide +kernel), ?_⟩
  refine List.forall_mem_cons.mpr ⟨fun _ _ _ _ _ _ _ _ _ _ _ _ _ _ _ _ _ _ X => so_zret X rfl (by decide +kernel), ?_⟩
  exact fun _ h => absurd h List.not_mem_nil
set_option maxRecDepth 100000 in
set_option maxHeartbeats 4000000 in
theorem sj_14 {L : Nat} {xs : Nat → Int32} : ∀ q ∈ cd_14, SJ L xs (md_14) q := by
  refine List.forall_mem_cons.mpr ⟨fun _ _ _ _ _ _ _ _ _ _ _ _ _ _ _ _ _ _ X => so_aload_n (k := 0) X (by decide +kernel), ?_⟩
  refine List.forall_mem_cons.mpr ⟨fun _ _ _ _ _ _ _ _ _ _ _ _ _ _ _ _ _ _ X => so_dup X (by decide +kernel), ?_⟩
  refine List.forall_mem_cons.mpr ⟨fun _ _ _ _ _ _ _ _ _ _ _ _ _ _ _ _ _ _ X => so_getI (cn := 1) (k := 4) X rfl (by omega) wq_93 (fun _ _ => rfl) (by decide +kernel), ?_⟩
  refine List.forall_mem_cons.mpr ⟨fun _ _ _ _ _ _ _ _ _ _ _ _ _ _ _ _ _ _ X => so_iload_n (k := 2) X (by decide +kernel), ?_⟩
  refine List.forall_mem_cons.mpr ⟨fun _ _ _ _ _ _ _ _ _ _ _ _ _ _ _ _ _ _ X => so_iadd X (by decide +kernel), ?_⟩
  refine List.forall_mem_cons.mpr ⟨fun _ _ _ _ _ _ _ _ _ _ _ _ _ _ _ _ _ _ X => so_putI (cn := 1) (k := 4) X rfl (by omega) (Or.inl wq_93) rfl rfl (by decide +kernel), ?_⟩
  refine List.forall_mem_cons.mpr ⟨fun _ _ _ _ _ _ _ _ _ _ _ _ _ _ _ _ _ _ X => so_aload_n (k := 0) X (by decide +kernel), ?_⟩
  refine List.forall_mem_cons.mpr ⟨fun _ _ _ _ _ _ _ _ _ _ _ _ _ _ _ _ _ _ X => so_getR (cn := 1) (k := 1) X rfl (by omega) wq_90 (fun _ _ => rfl) (by decide +kernel), ?_⟩
  refine List.forall_mem_cons.mpr ⟨fun _ _ _ _ _ _ _ _ _ _ _ _ _ _ _ _ _ _ X => so_aload_n (k := 1) X (by decide +kernel), ?_⟩
  refine List.forall_mem_cons.mpr ⟨fun _ _ _ _ _ _ _ _ _ _ _ _ _ _ _ _ _ _ X => so_getRN (cn := 5) (k := 1) X rfl (by omega) wq_75 (fun _ _ => rfl) (by decide +kernel), ?_⟩
  refine List.forall_mem_cons.mpr ⟨fun _ _ _ _ _ _ _ _ _ _ _ _ _ _ _ _ _ _ X => so_iconst (n := 0) X (by decide +kernel), ?_⟩
  refine List.forall_mem_cons.mpr ⟨fun _ _ _ _ _ _ _ _ _ _ _ _ _ _ _ _ _ _ X => so_iald X (by decide +kernel), ?_⟩
  refine List.forall_mem_cons.mpr ⟨fun _ _ _ _ _ _ _ _ _ _ _ _ _ _ _ _ _ _ X => so_dup2 X (by decide +kernel), ?_⟩
  refine List.forall_mem_cons.mpr ⟨fun _ _ _ _ _ _ _ _ _ _ _ _ _ _ _ _ _ _ X => so_iald X (by decide +kernel), ?_⟩
  refine List.forall_mem_cons.mpr ⟨fun _ _ _ _ _ _ _ _ _ _ _ _ _ _ _ _ _ _ X => so_iload_n (k := 2) X (by decide +kernel), ?_⟩
  refine List.forall_mem_cons.mpr ⟨fun _ _ _ _ _ _ _ _ _ _ _ _ _ _ _ _ _ _ X => so_iadd X (by decide +kernel), ?_⟩
  refine List.forall_mem_cons.mpr ⟨fun _ _ _ _ _ _ _ _ _ _ _ _ _ _ _ _ _ _ X => so_iast X (by decide +kernel), ?_⟩
  refine List.forall_mem_cons.mpr ⟨fun _ _ _ _ _ _ _ _ _ _ _ _ _ _ _ _ _ _ X => so_iconst (n := 1) X (by decide +kernel), ?_⟩
  refine List.forall_mem_cons.mpr ⟨fun _ _ _ _ _ _ _ _ _ _ _ _ _ _ _ _ _ _ X => so_istore_n (k := 3) X (by decide +kernel), ?_⟩
  refine List.forall_mem_cons.mpr ⟨fun _ _ _ _ _ _ _ _ _ _ _ _ _ _ _ _ _ _ X => so_iload_n (k := 3) X (by decide +kernel), ?_⟩
  refine List.forall_mem_cons.mpr ⟨fun _ _ _ _ _ _ _ _ _ _ _ _ _ _ _ _ _ _ X => so_aload_n (k := 1) X (by decide +kernel), ?_⟩
  refine List.forall_mem_cons.mpr ⟨fun _ _ _ _ _ _ _ _ _ _ _ _ _ _ _ _ _ _ X => so_getIN (cn := 5) (k := 2) X rfl (by omega) wq_77 (fun _ _ => rfl) (by decide +kernel), ?_⟩
  refine List.forall_mem_cons.mpr ⟨fun _ _ _ _ _ _ _ _ _ _ _ _ _ _ _ _ _ _ X => so_icmp_ge (off := 33) (tgt := 65) X (by decide +kernel) (by decide), ?_⟩
  refine List.forall_mem_cons.mpr ⟨fun _ _ _ _ _ _ _ _ _ _ _ _ _ _ _ _ _ _ X => so_aload_n (k := 0) X (by decide +kernel), ?_⟩
  refine List.forall_mem_cons.mpr ⟨fun _ _ _ _ _ _ _ _ _ _ _ _ _ _ _ _ _ _ X => so_getR (cn := 1) (k := 2) X rfl (by omega) wq_91 (fun _ _ => rfl) (by decide +kernel), ?_⟩
  refine List.forall_mem_cons.mpr ⟨fun _ _ _ _ _ _ _ _ _ _ _ _ _ _ _ _ _ _ X => so_aload_n (k := 1) X (by decide +kernel), ?_⟩
  refine List.forall_mem_cons.mpr ⟨fun _ _ _ _ _ _ _ _ _ _ _ _ _ _ _ _ _ _ X => so_getRN (cn := 5) (k := 1) X rfl (by omega) wq_75 (fun _ _ => rfl) (by decide +kernel), ?_⟩
  refine List.forall_mem_cons.mpr ⟨fun _ _ _ _ _ _ _ _ _ _ _ _ _ _ _ _ _ _ X => so_iload_n (k := 3) X (by decide +kernel), ?_⟩
  refine List.forall_mem_cons.mpr ⟨fun _ _ _ _ _ _ _ _ _ _ _ _ _ _ _ _ _ _ X => so_iconst (n := 1) X (by decide +kernel), ?_⟩
  refine List.forall_mem_cons.mpr ⟨fun _ _ _ _ _ _ _ _ _ _ _ _ _ _ _ _ _ _ X => so_isub X (by decide +kernel), ?_⟩
  refine List.forall_mem_cons.mpr ⟨fun _ _ _ _ _ _ _ _ _ _ _ _ _ _ _ _ _ _ X => so_iald X (by decide +kernel), ?_⟩
  refine List.forall_mem_cons.mpr ⟨fun _ _ _ _ _ _ _ _ _ _ _ _ _ _ _ _ _ _ X => so_aald (t := 4) X (by omega) (by omega) (by decide +kernel), ?_⟩
  refine List.forall_mem_cons.mpr ⟨fun _ _ _ _ _ _ _ _ _ _ _ _ _ _ _ _ _ _ X => so_aload_n (k := 1) X (by decide +kernel), ?_⟩
  refine List.forall_mem_cons.mpr ⟨fun _ _ _ _ _ _ _ _ _ _ _ _ _ _ _ _ _ _ X => so_getRN (cn := 5) (k := 1) X rfl (by omega) wq_75 (fun _ _ => rfl) (by decide +kernel), ?_⟩
  refine List.forall_mem_cons.mpr ⟨fun _ _ _ _ _ _ _ _ _ _ _ _ _ _ _ _ _ _ X => so_iload_n (k := 3) X (by decide +kernel), ?_⟩
  refine List.forall_mem_cons.mpr ⟨fun _ _ _ _ _ _ _ _ _ _ _ _ _ _ _ _ _ _ X => so_iald X (by decide +kernel), ?_⟩
  refine List.forall_mem_cons.mpr ⟨fun _ _ _ _ _ _ _ _ _ _ _ _ _ _ _ _ _ _ X => so_dup2 X (by decide +kernel), ?_⟩
  refine List.forall_mem_cons.mpr ⟨fun _ _ _ _ _ _ _ _ _ _ _ _ _ _ _ _ _ _ X => so_iald X (by decide +kernel), ?_⟩
  refine List.forall_mem_cons.mpr ⟨fun _ _ _ _ _ _ _ _ _ _ _ _ _ _ _ _ _ _ X => so_iload_n (k := 2) X (by decide +kernel), ?_⟩
  refine List.forall_mem_cons.mpr ⟨fun _ _ _ _ _ _ _ _ _ _ _ _ _ _ _ _ _ _ X => so_iadd X (by decide +kernel), ?_⟩
  refine List.forall_mem_cons.mpr ⟨fun _ _ _ _ _ _ _ _ _ _ _ _ _ _ _ _ _ _ X => so_iast X (by decide +kernel), ?_⟩
  refine List.forall_mem_cons.mpr ⟨fun _ _ _ _ _ _ _ _ _ _ _ _ _ _ _ _ _ _ X => so_iinc (k := 3) (n := 1) X (by decide +kernel), ?_⟩
  refine List.forall_mem_cons.mpr ⟨fun _ _ _ _ _ _ _ _ _ _ _ _ _ _ _ _ _ _ X => so_goto (off := -35) (tgt := 27) X (by decide +kernel) (by decide), ?_⟩
  refine List.forall_mem_cons.mpr ⟨fun _ _ _ _ _ _ _ _ _ _ _ _ _ _ _ _ _ _ X => so_vret X rfl (by decide +kernel), ?_⟩
  exact fun _ h => absurd h List.not_mem_nil
set_option maxRecDepth 100000 in
set_option maxHeartbeats 4000000 in
theorem sj_15 {L : Nat} {xs : Nat → Int32} : ∀ q ∈ cd_15, SJ L xs (md_15) q := by
  refine List.forall_mem_cons.mpr ⟨fun _ _ _ _ _ _ _ _ _ _ _ _ _ _ _ _ _ _ X => so_iload_n (k := 1) X (by decide +kernel), ?_⟩
  refine List.forall_mem_cons.mpr ⟨fun _ _ _ _ _ _ _ _ _ _ _ _ _ _ _ _ _ _ X => so_callSN (i := 84) (n := 1) X rfl wq_351 wq_352 wq_19 wd_84 wc_84 (by decide +kernel), ?_⟩
  refine List.forall_mem_cons.mpr ⟨fun _ _ _ _ _ _ _ _ _ _ _ _ _ _ _ _ _ _ X => so_if_eq (off := 14) (tgt := 18) X (by decide +kernel) (by decide), ?_⟩
  refine List.forall_mem_cons.mpr ⟨fun _ _ _ _ _ _ _ _ _ _ _ _ _ _ _ _ _ _ X => so_aload_n (k := 0) X (by decide +kernel), ?_⟩
  refine List.forall_mem_cons.mpr ⟨fun _ _ _ _ _ _ _ _ _ _ _ _ _ _ _ _ _ _ X => so_getR (cn := 1) (k := 2) X rfl (by omega) wq_91 (fun _ _ => rfl) (by decide +kernel), ?_⟩
  refine List.forall_mem_cons.mpr ⟨fun _ _ _ _ _ _ _ _ _ _ _ _ _ _ _ _ _ _ X => so_iload_n (k := 1) X (by decide +kernel), ?_⟩
  refine List.forall_mem_cons.mpr ⟨fun _ _ _ _ _ _ _ _ _ _ _ _ _ _ _ _ _ _ X => so_aald (t := 4) X (by omega) (by omega) (by decide +kernel), ?_⟩
  refine List.forall_mem_cons.mpr ⟨fun _ _ _ _ _ _ _ _ _ _ _ _ _ _ _ _ _ _ X => so_iload_n (k := 2) X (by decide +kernel), ?_⟩
  refine List.forall_mem_cons.mpr ⟨fun _ _ _ _ _ _ _ _ _ _ _ _ _ _ _ _ _ _ X => so_iald X (by decide +kernel), ?_⟩
  refine List.forall_mem_cons.mpr ⟨fun _ _ _ _ _ _ _ _ _ _ _ _ _ _ _ _ _ _ X => so_goto (off := 9) (tgt := 24) X (by decide +kernel) (by decide), ?_⟩
  refine List.forall_mem_cons.mpr ⟨fun _ _ _ _ _ _ _ _ _ _ _ _ _ _ _ _ _ _ X => so_aload_n (k := 0) X (by decide +kernel), ?_⟩
  refine List.forall_mem_cons.mpr ⟨fun _ _ _ _ _ _ _ _ _ _ _ _ _ _ _ _ _ _ X => so_getR (cn := 1) (k := 1) X rfl (by omega) wq_90 (fun _ _ => rfl) (by decide +kernel), ?_⟩
  refine List.forall_mem_cons.mpr ⟨fun _ _ _ _ _ _ _ _ _ _ _ _ _ _ _ _ _ _ X => so_iload_n (k := 2) X (by decide +kernel), ?_⟩
  refine List.forall_mem_cons.mpr ⟨fun _ _ _ _ _ _ _ _ _ _ _ _ _ _ _ _ _ _ X => so_iald X (by decide +kernel), ?_⟩
  refine List.forall_mem_cons.mpr ⟨fun _ _ _ _ _ _ _ _ _ _ _ _ _ _ _ _ _ _ X => so_istore_n (k := 3) X (by decide +kernel), ?_⟩
  refine List.forall_mem_cons.mpr ⟨fun _ _ _ _ _ _ _ _ _ _ _ _ _ _ _ _ _ _ X => so_bipush (n := 7) X (by decide +kernel) (by decide +kernel), ?_⟩
  refine List.forall_mem_cons.mpr ⟨fun _ _ _ _ _ _ _ _ _ _ _ _ _ _ _ _ _ _ X => so_iload_n (k := 3) X (by decide +kernel), ?_⟩
  refine List.forall_mem_cons.mpr ⟨fun _ _ _ _ _ _ _ _ _ _ _ _ _ _ _ _ _ _ X => so_iconst (n := 1) X (by decide +kernel), ?_⟩
  refine List.forall_mem_cons.mpr ⟨fun _ _ _ _ _ _ _ _ _ _ _ _ _ _ _ _ _ _ X => so_iadd X (by decide +kernel), ?_⟩
  refine List.forall_mem_cons.mpr ⟨fun _ _ _ _ _ _ _ _ _ _ _ _ _ _ _ _ _ _ X => so_min X wq_354 wq_355 wq_35 wq_min (by decide +kernel), ?_⟩
  refine List.forall_mem_cons.mpr ⟨fun _ _ _ _ _ _ _ _ _ _ _ _ _ _ _ _ _ _ X => so_iret X rfl (by decide +kernel), ?_⟩
  exact fun _ h => absurd h List.not_mem_nil
set_option maxRecDepth 100000 in
set_option maxHeartbeats 4000000 in
theorem sj_16 {L : Nat} {xs : Nat → Int32} : ∀ q ∈ cd_16, SJ L xs (md_16) q := by
  refine List.forall_mem_cons.mpr ⟨fun _ _ _ _ _ _ _ _ _ _ _ _ _ _ _ _ _ _ X => so_iconst (n := 0) X (by decide +kernel), ?_⟩
  refine List.forall_mem_cons.mpr ⟨fun _ _ _ _ _ _ _ _ _ _ _ _ _ _ _ _ _ _ X => so_istore_n (k := 3) X (by decide +kernel), ?_⟩
  refine List.forall_mem_cons.mpr ⟨fun _ _ _ _ _ _ _ _ _ _ _ _ _ _ _ _ _ _ X => so_aload_n (k := 2) X (by decide +kernel), ?_⟩
  refine List.forall_mem_cons.mpr ⟨fun _ _ _ _ _ _ _ _ _ _ _ _ _ _ _ _ _ _ X => so_callS (i := 20) (n := 1) X rfl wq_366 wq_367 wq_21 wd_20 wc_20 (by decide +kernel), ?_⟩
  refine List.forall_mem_cons.mpr ⟨fun _ _ _ _ _ _ _ _ _ _ _ _ _ _ _ _ _ _ X => so_iconst (n := 0) X (by decide +kernel), ?_⟩
  refine List.forall_mem_cons.mpr ⟨fun _ _ _ _ _ _ _ _ _ _ _ _ _ _ _ _ _ _ X => so_istore (k := 4) X (by decide +kernel), ?_⟩
  refine List.forall_mem_cons.mpr ⟨fun _ _ _ _ _ _ _ _ _ _ _ _ _ _ _ _ _ _ X => so_iload (k := 4) X (by decide +kernel), ?_⟩
  refine List.forall_mem_cons.mpr ⟨fun _ _ _ _ _ _ _ _ _ _ _ _ _ _ _ _ _ _ X => so_aload_n (k := 0) X (by decide +kernel), ?_⟩
  refine List.forall_mem_cons.mpr ⟨fun _ _ _ _ _ _ _ _ _ _ _ _ _ _ _ _ _ _ X => so_getI (cn := 1) (k := 3) X rfl (by omega) wq_92 (fun _ _ => rfl) (by decide +kernel), ?_⟩
  refine List.forall_mem_cons.mpr ⟨fun _ _ _ _ _ _ _ _ _ _ _ _ _ _ _ _ _ _ X => so_icmp_ge (off := 36) (tgt := 51) X (by decide +kernel) (by decide), ?_⟩
  refine List.forall_mem_cons.mpr ⟨fun _ _ _ _ _ _ _ _ _ _ _ _ _ _ _ _ _ _ X => so_aload_n (k := 0) X (by decide +kernel), ?_⟩
  refine List.forall_mem_cons.mpr ⟨fun _ _ _ _ _ _ _ _ _ _ _ _ _ _ _ _ _ _ X => so_getR (cn := 1) (k := 0) X rfl (by omega) wq_89 (fun _ _ => rfl) (by decide +kernel), ?_⟩
  refine List.forall_mem_cons.mpr ⟨fun _ _ _ _ _ _ _ _ _ _ _ _ _ _ _ _ _ _ X => so_iload (k := 4) X (by decide +kernel), ?_⟩
  refine List.forall_mem_cons.mpr ⟨fun _ _ _ _ _ _ _ _ _ _ _ _ _ _ _ _ _ _ X => so_aald (t := 6) X (by omega) (by omega) (by decide +kernel), ?_⟩
  refine List.forall_mem_cons.mpr ⟨fun _ _ _ _ _ _ _ _ _ _ _ _ _ _ _ _ _ _ X => so_getIN (cn := 5) (k := 3) X rfl (by omega) wq_78 (fun _ _ => rfl) (by decide +kernel), ?_⟩
  refine List.forall_mem_cons.mpr ⟨fun _ _ _ _ _ _ _ _ _ _ _ _ _ _ _ _ _ _ X => so_if_eq (off := 17) (tgt := 45) X (by decide +kernel) (by decide), ?_⟩
  refine List.forall_mem_cons.mpr ⟨fun _ _ _ _ _ _ _ _ _ _ _ _ _ _ _ _ _ _ X => so_aload_n (k := 0) X (by decide +kernel), ?_⟩
  refine List.forall_mem_cons.mpr ⟨fun _ _ _ _ _ _ _ _ _ _ _ _ _ _ _ _ _ _ X => so_getR (cn := 1) (k := 0) X rfl (by omega) wq_89 (fun _ _ => rfl) (by decide +kernel), ?_⟩
  refine List.forall_mem_cons.mpr ⟨fun _ _ _ _ _ _ _ _ _ _ _ _ _ _ _ _ _ _ X => so_iload (k := 4) X (by decide +kernel), ?_⟩
  refine List.forall_mem_cons.mpr ⟨fun _ _ _ _ _ _ _ _ _ _ _ _ _ _ _ _ _ _ X => so_aald (t := 6) X (by omega) (by omega) (by decide +kernel), ?_⟩
  refine List.forall_mem_cons.mpr ⟨fun _ _ _ _ _ _ _ _ _ _ _ _ _ _ _ _ _ _ X => so_iload_n (k := 1) X (by decide +kernel), ?_⟩
  refine List.forall_mem_cons.mpr ⟨fun _ _ _ _ _ _ _ _ _ _ _ _ _ _ _ _ _ _ X => so_iload_n (k := 3) X (by decide +kernel), ?_⟩
  refine List.forall_mem_cons.mpr ⟨fun _ _ _ _ _ _ _ _ _ _ _ _ _ _ _ _ _ _ X => so_aload_n (k := 2) X (by decide +kernel), ?_⟩
  refine List.forall_mem_cons.mpr ⟨fun _ _ _ _ _ _ _ _ _ _ _ _ _ _ _ _ _ _ X => so_callS (i := 18) (n := 4) X rfl wq_369 wq_370 wq_21 wd_18 wc_18 (by decide +kernel), ?_⟩
  refine List.forall_mem_cons.mpr ⟨fun _ _ _ _ _ _ _ _ _ _ _ _ _ _ _ _ _ _ X => so_istore_n (k := 3) X (by decide +kernel), ?_⟩
  refine List.forall_mem_cons.mpr ⟨fun _ _ _ _ _ _ _ _ _ _ _ _ _ _ _ _ _ _ X => so_iinc (k := 4) (n := 1) X (by decide +kernel), ?_⟩
  refine List.forall_mem_cons.mpr ⟨fun _ _ _ _ _ _ _ _ _ _ _ _ _ _ _ _ _ _ X => so_goto (off := -39) (tgt := 9) X (by decide +kernel) (by decide), ?_⟩
  refine List.forall_mem_cons.mpr ⟨fun _ _ _ _ _ _ _ _ _ _ _ _ _ _ _ _ _ _ X => so_iload_n (k := 3) X (by decide +kernel), ?_⟩
  refine List.forall_mem_cons.mpr ⟨fun _ _ _ _ _ _ _ _ _ _ _ _ _ _ _ _ _ _ X => so_callS (i := 17) (n := 1) X rfl wq_375 wq_376 wq_21 wd_17 wc_17 (by decide +kernel), ?_⟩
  refine List.forall_mem_cons.mpr ⟨fun _ _ _ _ _ _ _ _ _ _ _ _ _ _ _ _ _ _ X => so_istore (k := 4) X (by decide +kernel), ?_⟩
  refine List.forall_mem_cons.mpr ⟨fun _ _ _ _ _ _ _ _ _ _ _ _ _ _ _ _ _ _ X => so_iconst (n := 0) X (by decide +kernel), ?_⟩
  refine List.forall_mem_cons.mpr ⟨fun _ _ _ _ _ _ _ _ _ _ _ _ _ _ _ _ _ _ X => so_istore (k := 5) X (by decide +kernel), ?_⟩
  refine List.forall_mem_cons.mpr ⟨fun _ _ _ _ _ _ _ _ _ _ _ _ _ _ _ _ _ _ X => so_iload (k := 5) X (by decide +kernel), ?_⟩
  refine List.forall_mem_cons.mpr ⟨fun _ _ _ _ _ _ _ _ _ _ _ _ _ _ _ _ _ _ X => so_iconst (n := 5) X (by decide +kernel), ?_⟩
  refine List.forall_mem_cons.mpr ⟨fun _ _ _ _ _ _ _ _ _ _ _ _ _ _ _ _ _ _ X => so_icmp_ge (off := 27) (tgt := 90) X (by decide +kernel) (by decide), ?_⟩
  refine List.forall_mem_cons.mpr ⟨fun _ _ _ _ _ _ _ _ _ _ _ _ _ _ _ _ _ _ X => so_aload_n (k := 2) X (by decide +kernel), ?_⟩
  refine List.forall_mem_cons.mpr ⟨fun _ _ _ _ _ _ _ _ _ _ _ _ _ _ _ _ _ _ X => so_iload (k := 5) X (by decide +kernel), ?_⟩
  refine List.forall_mem_cons.mpr ⟨fun _ _ _ _ _ _ _ _ _ _ _ _ _ _ _ _ _ _ X => so_bipush (n := 9) X (by decide +kernel) (by decide +kernel), ?_⟩
  refine List.forall_mem_cons.mpr ⟨fun _ _ _ _ _ _ _ _ _ _ _ _ _ _ _ _ _ _ X => so_iload (k := 4) X (by decide +kernel), ?_⟩
  refine List.forall_mem_cons.mpr ⟨fun _ _ _ _ _ _ _ _ _ _ _ _ _ _ _ _ _ _ X => so_aload_n (k := 2) X (by decide +kernel), ?_⟩
  refine List.forall_mem_cons.mpr ⟨fun _ _ _ _ _ _ _ _ _ _ _ _ _ _ _ _ _ _ X => so_iload (k := 5) X (by decide +kernel), ?_⟩
  refine List.forall_mem_cons.mpr ⟨fun _ _ _ _ _ _ _ _ _ _ _ _ _ _ _ _ _ _ X => so_iald X (by decide +kernel), ?_⟩
  refine List.forall_mem_cons.mpr ⟨fun _ _ _ _ _ _ _ _ _ _ _ _ _ _ _ _ _ _ X => so_imul X (by decide +kernel), ?_⟩
  refine List.forall_mem_cons.mpr ⟨fun _ _ _ _ _ _ _ _ _ _ _ _ _ _ _ _ _ _ X => so_iconst (n := 1) X (by decide +kernel), ?_⟩
  refine List.forall_mem_cons.mpr ⟨fun _ _ _ _ _ _ _ _ _ _ _ _ _ _ _ _ _ _ X => so_iadd X (by decide +kernel), ?_⟩
  refine List.forall_mem_cons.mpr ⟨fun _ _ _ _ _ _ _ _ _ _ _ _ _ _ _ _ _ _ X => so_min X wq_354 wq_355 wq_35 wq_min (by decide +kernel), ?_⟩
  refine List.forall_mem_cons.mpr ⟨fun _ _ _ _ _ _ _ _ _ _ _ _ _ _ _ _ _ _ X => so_iast X (by decide +kernel), ?_⟩
  refine List.forall_mem_cons.mpr ⟨fun _ _ _ _ _ _ _ _ _ _ _ _ _ _ _ _ _ _ X => so_iinc (k := 5) (n := 1) X (by decide +kernel), ?_⟩
  refine List.forall_mem_cons.mpr ⟨fun _ _ _ _ _ _ _ _ _ _ _ _ _ _ _ _ _ _ X => so_goto (off := -27) (tgt := 60) X (by decide +kernel) (by decide), ?_⟩
  refine List.forall_mem_cons.mpr ⟨fun _ _ _ _ _ _ _ _ _ _ _ _ _ _ _ _ _ _ X => so_vret X rfl (by decide +kernel), ?_⟩
  exact fun _ h => absurd h List.not_mem_nil
set_option maxRecDepth 100000 in
set_option maxHeartbeats 4000000 in
theorem sj_17 {L : Nat} {xs : Nat → Int32} : ∀ q ∈ cd_17, SJ L xs (md_17) q := by
  refine List.forall_mem_cons.mpr ⟨fun _ _ _ _ _ _ _ _ _ _ _ _ _ _ _ _ _ _ X => so_iload_n (k := 0) X (by decide +kernel), ?_⟩
  refine List.forall_mem_cons.mpr ⟨fun _ _ _ _ _ _ _ _ _ _ _ _ _ _ _ _ _ _ X => so_iconst (n := 4) X (by decide +kernel), ?_⟩
  refine List.forall_mem_cons.mpr ⟨fun _ _ _ _ _ _ _ _ _ _ _ _ _ _ _ _ _ _ X => so_icmp_ne (off := 5) (tgt := 7) X (by decide +kernel) (by decide), ?_⟩
  refine List.forall_mem_cons.mpr ⟨fun _ _ _ _ _ _ _ _ _ _ _ _ _ _ _ _ _ _ X => so_iconst (n := 4) X (by decide +kernel), ?_⟩
  refine List.forall_mem_cons.mpr ⟨fun _ _ _ _ _ _ _ _ _ _ _ _ _ _ _ _ _ _ X => so_iret X rfl (by decide +kernel), ?_⟩
  refine List.forall_mem_cons.mpr ⟨fun _ _ _ _ _ _ _ _ _ _ _ _ _ _ _ _ _ _ X => so_iload_n (k := 0) X (by decide +kernel), ?_⟩
  refine List.forall_mem_cons.mpr ⟨fun _ _ _ _ _ _ _ _ _ _ _ _ _ _ _ _ _ _ X => so_if_le (off := 7) (tgt := 15) X (by decide +kernel) (by decide), ?_⟩
  refine List.forall_mem_cons.mpr ⟨fun _ _ _ _ _ _ _ _ _ _ _ _ _ _ _ _ _ _ X => so_iconst (n := 2) X (by decide +kernel), ?_⟩
  refine List.forall_mem_cons.mpr ⟨fun _ _ _ _ _ _ _ _ _ _ _ _ _ _ _ _ _ _ X => so_goto (off := 4) (tgt := 16) X (by decide +kernel) (by decide), ?_⟩
  refine List.forall_mem_cons.mpr ⟨fun _ _ _ _ _ _ _ _ _ _ _ _ _ _ _ _ _ _ X => so_iconst (n := 0) X (by decide +kernel), ?_⟩
  refine List.forall_mem_cons.mpr ⟨fun _ _ _ _ _ _ _ _ _ _ _ _ _ _ _ _ _ _ X => so_iret X rfl (by decide +kernel), ?_⟩
  exact fun _ h => absurd h List.not_mem_nil
