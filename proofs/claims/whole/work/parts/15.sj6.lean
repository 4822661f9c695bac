/-! ===== sound, op by op (written by a program) ===== -/
set_option maxRecDepth 100000 in
set_option maxHeartbeats 4000000 in
theorem sj_124 {L : Nat} {xs : Nat → Int32} : ∀ q ∈ cd_124, SJ L xs (md_124) q := by
  refine List.forall_mem_cons.mpr ⟨fun _ _ _ _ _ _ _ _ _ _ _ _ _ _ _ _ _ _ X => so_aload_n (k := 0) X (by decide +kernel), ?_⟩
  refine List.forall_mem_cons.mpr ⟨fun _ _ _ _ _ _ _ _ _ _ _ _ _ _ _ _ _ _ X => so_iload_n (k := 1) X (by decide +kernel), ?_⟩
  refine List.forall_mem_cons.mpr ⟨fun _ _ _ _ _ _ _ _ _ _ _ _ _ _ _ _ _ _ X => so_iload_n (k := 2) X (by decide +kernel), ?_⟩
  refine List.forall_mem_cons.mpr ⟨fun _ _ _ _ _ _ _ _ _ _ _ _ _ _ _ _ _ _ X => so_callV (i := 123) (cn := 9) (n := 2) X rfl rfl rfl wq_933 wq_935 ws_X10_shareOf wq_43 wd_123 wc_123 (by decide +kernel), ?_⟩
  refine List.forall_mem_cons.mpr ⟨fun _ _ _ _ _ _ _ _ _ _ _ _ _ _ _ _ _ _ X => so_iret X rfl (by decide +kernel), ?_⟩
  exact fun _ h => absurd h List.not_mem_nil
set_option maxRecDepth 100000 in
set_option maxHeartbeats 4000000 in
theorem sj_125 {L : Nat} {xs : Nat → Int32} : ∀ q ∈ cd_125, SJ L xs (md_125) q := by
  refine List.forall_mem_cons.mpr ⟨fun _ _ _ _ _ _ _ _ _ _ _ _ _ _ _ _ _ _ X => so_aload_n (k := 0) X (by decide +kernel), ?_⟩
  refine List.forall_mem_cons.mpr ⟨fun _ _ _ _ _ _ _ _ _ _ _ _ _ _ _ _ _ _ X => so_iload_n (k := 1) X (by decide +kernel), ?_⟩
  refine List.forall_mem_cons.mpr ⟨fun _ _ _ _ _ _ _ _ _ _ _ _ _ _ _ _ _ _ X => so_iload_n (k := 2) X (by decide +kernel), ?_⟩
  refine List.forall_mem_cons.mpr ⟨fun _ _ _ _ _ _ _ _ _ _ _ _ _ _ _ _ _ _ X => so_callV (i := 123) (cn := 9) (n := 2) X rfl rfl rfl wq_933 wq_935 ws_X10_shareOf wq_43 wd_123 wc_123 (by decide +kernel), ?_⟩
  refine List.forall_mem_cons.mpr ⟨fun _ _ _ _ _ _ _ _ _ _ _ _ _ _ _ _ _ _ X => so_iret X rfl (by decide +kernel), ?_⟩
  exact fun _ h => absurd h List.not_mem_nil
set_option maxRecDepth 100000 in
set_option maxHeartbeats 4000000 in
theorem sj_126 {L : Nat} {xs : Nat → Int32} : ∀ q ∈ cd_126, SJ L xs (md_126) q := by
  refine List.forall_mem_cons.mpr ⟨fun _ _ _ _ _ _ _ _ _ _ _ _ _ _ _ _ _ _ X => so_aload_n (k := 0) X (by decide +kernel), ?_⟩
  refine List.forall_mem_cons.mpr ⟨fun _ _ _ _ _ _ _ _ _ _ _ _ _ _ _ _ _ _ X => so_iconst (n := 0) X (by decide +kernel), ?_⟩
  refine List.forall_mem_cons.mpr ⟨fun _ _ _ _ _ _ _ _ _ _ _ _ _ _ _ _ _ _ X => so_putI (cn := 9) (k := 0) X rfl (by omega) (Or.inl wq_737) rfl rfl (by decide +kernel), ?_⟩
  refine List.forall_mem_cons.mpr ⟨fun _ _ _ _ _ _ _ _ _ _ _ _ _ _ _ _ _ _ X => so_iconst (n := 0) X (by decide +kernel), ?_⟩
  refine List.forall_mem_cons.mpr ⟨fun _ _ _ _ _ _ _ _ _ _ _ _ _ _ _ _ _ _ X => so_istore_n (k := 1) X (by decide +kernel), ?_⟩
  refine List.forall_mem_cons.mpr ⟨fun _ _ _ _ _ _ _ _ _ _ _ _ _ _ _ _ _ _ X => so_iconst (n := 0) X (by decide +kernel), ?_⟩
  refine List.forall_mem_cons.mpr ⟨fun _ _ _ _ _ _ _ _ _ _ _ _ _ _ _ _ _ _ X => so_istore_n (k := 2) X (by decide +kernel), ?_⟩
  refine List.forall_mem_cons.mpr ⟨fun _ _ _ _ _ _ _ _ _ _ _ _ _ _ _ _ _ _ X => so_iload_n (k := 2) X (by decide +kernel), ?_⟩
  refine List.forall_mem_cons.mpr ⟨fun _ _ _ _ _ _ _ _ _ _ _ _ _ _ _ _ _ _ X => so_aload_n (k := 0) X (by decide +kernel), ?_⟩
  refine List.forall_mem_cons.mpr ⟨fun _ _ _ _ _ _ _ _ _ _ _ _ _ _ _ _ _ _ X => so_getI (cn := 9) (k := 10) X rfl (by omega) wq_747 (fun _ _ => rfl) (by decide +kernel), ?_⟩
  refine List.forall_mem_cons.mpr ⟨fun _ _ _ _ _ _ _ _ _ _ _ _ _ _ _ _ _ _ X => so_icmp_ge (off := 26) (tgt := 40) X (by decide +kernel) (by decide), ?_⟩
  refine List.forall_mem_cons.mpr ⟨fun _ _ _ _ _ _ _ _ _ _ _ _ _ _ _ _ _ _ X => so_iload_n (k := 1) X (by decide +kernel), ?_⟩
  refine List.forall_mem_cons.mpr ⟨fun _ _ _ _ _ _ _ _ _ _ _ _ _ _ _ _ _ _ X => so_aload_n (k := 0) X (by decide +kernel), ?_⟩
  refine List.forall_mem_cons.mpr ⟨fun _ _ _ _ _ _ _ _ _ _ _ _ _ _ _ _ _ _ X => so_getR (cn := 9) (k := 9) X rfl (by omega) wq_746 (fun _ _ => rfl) (by decide +kernel), ?_⟩
  refine List.forall_mem_cons.mpr ⟨fun _ _ _ _ _ _ _ _ _ _ _ _ _ _ _ _ _ _ X => so_iload_n (k := 2) X (by decide +kernel), ?_⟩
  refine List.forall_mem_cons.mpr ⟨fun _ _ _ _ _ _ _ _ _ _ _ _ _ _ _ _ _ _ X => so_zald X (by decide +kernel), ?_⟩
  refine List.forall_mem_cons.mpr ⟨fun _ _ _ _ _ _ _ _ _ _ _ _ _ _ _ _ _ _ X => so_if_eq (off := 7) (tgt := 31) X (by decide +kernel) (by decide), ?_⟩
  refine List.forall_mem_cons.mpr ⟨fun _ _ _ _ _ _ _ _ _ _ _ _ _ _ _ _ _ _ X => so_iconst (n := 1) X (by decide +kernel), ?_⟩
  refine List.forall_mem_cons.mpr ⟨fun _ _ _ _ _ _ _ _ _ _ _ _ _ _ _ _ _ _ X => so_goto (off := 4) (tgt := 32) X (by decide +kernel) (by decide), ?_⟩
  refine List.forall_mem_cons.mpr ⟨fun _ _ _ _ _ _ _ _ _ _ _ _ _ _ _ _ _ _ X => so_iconst (n := 0) X (by decide +kernel), ?_⟩
  refine List.forall_mem_cons.mpr ⟨fun _ _ _ _ _ _ _ _ _ _ _ _ _ _ _ _ _ _ X => so_iadd X (by decide +kernel), ?_⟩
  refine List.forall_mem_cons.mpr ⟨fun _ _ _ _ _ _ _ _ _ _ _ _ _ _ _ _ _ _ X => so_istore_n (k := 1) X (by decide +kernel), ?_⟩
  refine List.forall_mem_cons.mpr ⟨fun _ _ _ _ _ _ _ _ _ _ _ _ _ _ _ _ _ _ X => so_iinc (k := 2) (n := 1) X (by decide +kernel), ?_⟩
  refine List.forall_mem_cons.mpr ⟨fun _ _ _ _ _ _ _ _ _ _ _ _ _ _ _ _ _ _ X => so_goto (off := -28) (tgt := 9) X (by decide +kernel) (by decide), ?_⟩
  refine List.forall_mem_cons.mpr ⟨fun _ _ _ _ _ _ _ _ _ _ _ _ _ _ _ _ _ _ X => so_iload_n (k := 1) X (by decide +kernel), ?_⟩
  refine List.forall_mem_cons.mpr ⟨fun _ _ _ _ _ _ _ _ _ _ _ _ _ _ _ _ _ _ X => so_iret X rfl (by decide +kernel), ?_⟩
  exact fun _ h => absurd h List.not_mem_nil
set_option maxRecDepth 100000 in
set_option maxHeartbeats 4000000 in
theorem sj_127 {L : Nat} {xs : Nat → Int32} : ∀ q ∈ cd_127, SJ L xs (md_127) q := by
  refine List.forall_mem_cons.mpr ⟨fun _ _ _ _ _ _ _ _ _ _ _ _ _ _ _ _ _ _ X => so_aload_n (k := 2) X (by decide +kernel), ?_⟩
  refine List.forall_mem_cons.mpr ⟨fun _ _ _ _ _ _ _ _ _ _ _ _ _ _ _ _ _ _ X => so_iconst (n := 0) X (by decide +kernel), ?_⟩
  refine List.forall_mem_cons.mpr ⟨fun _ _ _ _ _ _ _ _ _ _ _ _ _ _ _ _ _ _ X => so_aload_n (k := 0) X (by decide +kernel), ?_⟩
  refine List.forall_mem_cons.mpr ⟨fun _ _ _ _ _ _ _ _ _ _ _ _ _ _ _ _ _ _ X => so_iload_n (k := 1) X (by decide +kernel), ?_⟩
  refine List.forall_mem_cons.mpr ⟨fun _ _ _ _ _ _ _ _ _ _ _ _ _ _ _ _ _ _ X => so_callV (i := 62) (cn := 8) (n := 1) X rfl rfl rfl wq_268 wq_269 wq_270 wq_33 wd_62 wc_62 (by decide +kernel), ?_⟩
  refine List.forall_mem_cons.mpr ⟨fun _ _ _ _ _ _ _ _ _ _ _ _ _ _ _ _ _ _ X => so_i2l X (by decide +kernel), ?_⟩
  refine List.forall_mem_cons.mpr ⟨fun _ _ _ _ _ _ _ _ _ _ _ _ _ _ _ _ _ _ X => so_last X (by decide +kernel), ?_⟩
  refine List.forall_mem_cons.mpr ⟨fun _ _ _ _ _ _ _ _ _ _ _ _ _ _ _ _ _ _ X => so_goto (off := 9) (tgt := 18) X (by decide +kernel) (by decide), ?_⟩
  refine List.forall_mem_cons.mpr ⟨fun _ _ _ _ _ _ _ _ _ _ _ _ _ _ _ _ _ _ X => so_iconst (n := 0) X (by decide +kernel), ?_⟩
  refine List.forall_mem_cons.mpr ⟨fun _ _ _ _ _ _ _ _ _ _ _ _ _ _ _ _ _ _ X => so_iret X rfl (by decide +kernel), ?_⟩
  exact fun _ h => absurd h List.not_mem_nil
set_option maxRecDepth 100000 in
set_option maxHeartbeats 4000000 in
theorem sj_128 {L : Nat} {xs : Nat → Int32} : ∀ q ∈ cd_128, SJ L xs (md_128) q := by
  refine List.forall_mem_cons.mpr ⟨fun _ _ _ _ _ _ _ _ _ _ _ _ _ _ _ _ _ _ X => so_aload_n (k := 2) X (by decide +kernel), ?_⟩
  refine List.forall_mem_cons.mpr ⟨fun _ _ _ _ _ _ _ _ _ _ _ _ _ _ _ _ _ _ X => so_iconst (n := 0) X (by decide +kernel), ?_⟩
  refine List.forall_mem_cons.mpr ⟨fun _ _ _ _ _ _ _ _ _ _ _ _ _ _ _ _ _ _ X => so_aload_n (k := 0) X (by decide +kernel), ?_⟩
  refine List.forall_mem_cons.mpr ⟨fun _ _ _ _ _ _ _ _ _ _ _ _ _ _ _ _ _ _ X => so_iload_n (k := 1) X (by decide +kernel), ?_⟩
  refine List.forall_mem_cons.mpr ⟨fun _ _ _ _ _ _ _ _ _ _ _ _ _ _ _ _ _ _ X => so_callV (i := 63) (cn := 8) (n := 1) X rfl rfl rfl wq_368 wq_369 wq_370 wq_33 wd_63 wc_63 (by decide +kernel), ?_⟩
  refine List.forall_mem_cons.mpr ⟨fun _ _ _ _ _ _ _ _ _ _ _ _ _ _ _ _ _ _ X => so_i2l X (by decide +kernel), ?_⟩
  refine List.forall_mem_cons.mpr ⟨fun _ _ _ _ _ _ _ _ _ _ _ _ _ _ _ _ _ _ X => so_last X (by decide +kernel), ?_⟩
  refine List.forall_mem_cons.mpr ⟨fun _ _ _ _ _ _ _ _ _ _ _ _ _ _ _ _ _ _ X => so_goto (off := 9) (tgt := 18) X (by decide +kernel) (by decide), ?_⟩
  refine List.forall_mem_cons.mpr ⟨fun _ _ _ _ _ _ _ _ _ _ _ _ _ _ _ _ _ _ X => so_iconst (n := 0) X (by decide +kernel), ?_⟩
  refine List.forall_mem_cons.mpr ⟨fun _ _ _ _ _ _ _ _ _ _ _ _ _ _ _ _ _ _ X => so_iret X rfl (by decide +kernel), ?_⟩
  exact fun _ h => absurd h List.not_mem_nil
set_option maxRecDepth 100000 in
set_option maxHeartbeats 4000000 in
theorem sj_129 {L : Nat} {xs : Nat → Int32} : ∀ q ∈ cd_129, SJ L xs (md_129) q := by
  refine List.forall_mem_cons.mpr ⟨fun _ _ _ _ _ _ _ _ _ _ _ _ _ _ _ _ _ _ X => so_aload_n (k := 1) X (by decide +kernel), ?_⟩
  refine List.forall_mem_cons.mpr ⟨fun _ _ _ _ _ _ _ _ _ _ _ _ _ _ _ _ _ _ X => so_iconst (n := 0) X (by decide +kernel), ?_⟩
  refine List.forall_mem_cons.mpr ⟨fun _ _ _ _ _ _ _ _ _ _ _ _ _ _ _ _ _ _ X => so_aload_n (k := 0) X (by decide +kernel), ?_⟩
  refine List.forall_mem_cons.mpr ⟨fun _ _ _ _ _ _ _ _ _ _ _ _ _ _ _ _ _ _ X => so_callV (i := 64) (cn := 8) (n := 0) X rfl rfl rfl wq_423 wq_424 wq_425 wq_33 wd_64 wc_64 (by decide +kernel), ?_⟩
  refine List.forall_mem_cons.mpr ⟨fun _ _ _ _ _ _ _ _ _ _ _ _ _ _ _ _ _ _ X => so_i2l X (by decide +kernel), ?_⟩
  refine List.forall_mem_cons.mpr ⟨fun _ _ _ _ _ _ _ _ _ _ _ _ _ _ _ _ _ _ X => so_last X (by decide +kernel), ?_⟩
  refine List.forall_mem_cons.mpr ⟨fun _ _ _ _ _ _ _ _ _ _ _ _ _ _ _ _ _ _ X => so_goto (off := 6) (tgt := 14) X (by decide +kernel) (by decide), ?_⟩
  refine List.forall_mem_cons.mpr ⟨fun _ _ _ _ _ _ _ _ _ _ _ _ _ _ _ _ _ _ X => so_iconst (n := 0) X (by decide +kernel), ?_⟩
  refine List.forall_mem_cons.mpr ⟨fun _ _ _ _ _ _ _ _ _ _ _ _ _ _ _ _ _ _ X => so_iret X rfl (by decide +kernel), ?_⟩
  exact fun _ h => absurd h List.not_mem_nil
set_option maxRecDepth 100000 in
set_option maxHeartbeats 4000000 in
theorem sj_130 {L : Nat} {xs : Nat → Int32} : ∀ q ∈ cd_130, SJ L xs (md_130) q := by
  refine List.forall_mem_cons.mpr ⟨fun _ _ _ _ _ _ _ _ _ _ _ _ _ _ _ _ _ _ X => so_aload_n (k := 3) X (by decide +kernel), ?_⟩
  refine List.forall_mem_cons.mpr ⟨fun _ _ _ _ _ _ _ _ _ _ _ _ _ _ _ _ _ _ X => so_iconst (n := 0) X (by decide +kernel), ?_⟩
  refine List.forall_mem_cons.mpr ⟨fun _ _ _ _ _ _ _ _ _ _ _ _ _ _ _ _ _ _ X => so_aload_n (k := 0) X (by decide +kernel), ?_⟩
  refine List.forall_mem_cons.mpr ⟨fun _ _ _ _ _ _ _ _ _ _ _ _ _ _ _ _ _ _ X => so_iload_n (k := 1) X (by decide +kernel), ?_⟩
  refine List.forall_mem_cons.mpr ⟨fun _ _ _ _ _ _ _ _ _ _ _ _ _ _ _ _ _ _ X => so_iload_n (k := 2) X (by decide +kernel), ?_⟩
  refine List.forall_mem_cons.mpr ⟨fun _ _ _ _ _ _ _ _ _ _ _ _ _ _ _ _ _ _ X => so_callV (i := 65) (cn := 8) (n := 2) X rfl rfl rfl wq_452 wq_453 wq_454 wq_33 wd_65 wc_65 (by decide +kernel), ?_⟩
  refine List.forall_mem_cons.mpr ⟨fun _ _ _ _ _ _ _ _ _ _ _ _ _ _ _ _ _ _ X => so_if_eq (off := 7) (tgt := 15) X (by decide +kernel) (by decide), ?_⟩
  refine List.forall_mem_cons.mpr ⟨fun _ _ _ _ _ _ _ _ _ _ _ _ _ _ _ _ _ _ X => so_lconst (n := 1) X (by decide +kernel), ?_⟩
  refine List.forall_mem_cons.mpr ⟨fun _ _ _ _ _ _ _ _ _ _ _ _ _ _ _ _ _ _ X => so_goto (off := 4) (tgt := 16) X (by decide +kernel) (by decide), ?_⟩
  refine List.forall_mem_cons.mpr ⟨fun _ _ _ _ _ _ _ _ _ _ _ _ _ _ _ _ _ _ X => so_lconst (n := 0) X (by decide +kernel), ?_⟩
  refine List.forall_mem_cons.mpr ⟨fun _ _ _ _ _ _ _ _ _ _ _ _ _ _ _ _ _ _ X => so_last X (by decide +kernel), ?_⟩
  refine List.forall_mem_cons.mpr ⟨fun _ _ _ _ _ _ _ _ _ _ _ _ _ _ _ _ _ _ X => so_goto (off := 7) (tgt := 24) X (by decide +kernel) (by decide), ?_⟩
  refine List.forall_mem_cons.mpr ⟨fun _ _ _ _ _ _ _ _ _ _ _ _ _ _ _ _ _ _ X => so_iconst (n := 0) X (by decide +kernel), ?_⟩
  refine List.forall_mem_cons.mpr ⟨fun _ _ _ _ _ _ _ _ _ _ _ _ _ _ _ _ _ _ X => so_iret X rfl (by decide +kernel), ?_⟩
  exact fun _ h => absurd h List.not_mem_nil
set_option maxRecDepth 100000 in
set_option maxHeartbeats 4000000 in
theorem sj_131 {L : Nat} {xs : Nat → Int32} : ∀ q ∈ cd_131, SJ L xs (md_131) q := by
  refine List.forall_mem_cons.mpr ⟨fun _ _ _ _ _ _ _ _ _ _ _ _ _ _ _ _ _ _ X => so_aload_n (k := 1) X (by decide +kernel), ?_⟩
  refine List.forall_mem_cons.mpr ⟨fun _ _ _ _ _ _ _ _ _ _ _ _ _ _ _ _ _ _ X => so_iconst (n := 0) X (by decide +kernel), ?_⟩
  refine List.forall_mem_cons.mpr ⟨fun _ _ _ _ _ _ _ _ _ _ _ _ _ _ _ _ _ _ X => so_aload_n (k := 0) X (by decide +kernel), ?_⟩
  refine List.forall_mem_cons.mpr ⟨fun _ _ _ _ _ _ _ _ _ _ _ _ _ _ _ _ _ _ X => so_callV (i := 66) (cn := 8) (n := 0) X rfl rfl rfl wq_465 wq_466 wq_467 wq_33 wd_66 wc_66 (by decide +kernel), ?_⟩
  refine List.forall_mem_cons.mpr ⟨fun _ _ _ _ _ _ _ _ _ _ _ _ _ _ _ _ _ _ X => so_i2l X (by decide +kernel), ?_⟩
  refine List.forall_mem_cons.mpr ⟨fun _ _ _ _ _ _ _ _ _ _ _ _ _ _ _ _ _ _ X => so_last X (by decide +kernel), ?_⟩
  refine List.forall_mem_cons.mpr ⟨fun _ _ _ _ _ _ _ _ _ _ _ _ _ _ _ _ _ _ X => so_goto (off := 6) (tgt := 14) X (by decide +kernel) (by decide), ?_⟩
  refine List.forall_mem_cons.mpr ⟨fun _ _ _ _ _ _ _ _ _ _ _ _ _ _ _ _ _ _ X => so_iconst (n := 0) X (by decide +kernel), ?_⟩
  refine List.forall_mem_cons.mpr ⟨fun _ _ _ _ _ _ _ _ _ _ _ _ _ _ _ _ _ _ X => so_iret X rfl (by decide +kernel), ?_⟩
  exact fun _ h => absurd h List.not_mem_nil
set_option maxRecDepth 100000 in
set_option maxHeartbeats 4000000 in
theorem sj_132 {L : Nat} {xs : Nat → Int32} : ∀ q ∈ cd_132, SJ L xs (md_132) q := by
  refine List.forall_mem_cons.mpr ⟨fun _ _ _ _ _ _ _ _ _ _ _ _ _ _ _ _ _ _ X => so_aload_n (k := 3) X (by decide +kernel), ?_⟩
  refine List.forall_mem_cons.mpr ⟨fun _ _ _ _ _ _ _ _ _ _ _ _ _ _ _ _ _ _ X => so_iconst (n := 0) X (by decide +kernel), ?_⟩
  refine List.forall_mem_cons.mpr ⟨fun _ _ _ _ _ _ _ _ _ _ _ _ _ _ _ _ _ _ X => so_aload_n (k := 0) X (by decide +kernel), ?_⟩
  refine List.forall_mem_cons.mpr ⟨fun _ _ _ _ _ _ _ _ _ _ _ _ _ _ _ _ _ _ X => so_iload_n (k := 1) X (by decide +kernel), ?_⟩
  refine List.forall_mem_cons.mpr ⟨fun _ _ _ _ _ _ _ _ _ _ _ _ _ _ _ _ _ _ X => so_iload_n (k := 2) X (by decide +kernel), ?_⟩
  refine List.forall_mem_cons.mpr ⟨fun _ _ _ _ _ _ _ _ _ _ _ _ _ _ _ _ _ _ X => so_callV (i := 68) (cn := 8) (n := 2) X rfl rfl rfl wq_481 wq_482 wq_483 wq_33 wd_68 wc_68 (by decide +kernel), ?_⟩
  refine List.forall_mem_cons.mpr ⟨fun _ _ _ _ _ _ _ _ _ _ _ _ _ _ _ _ _ _ X => so_i2l X (by decide +kernel), ?_⟩
  refine List.forall_mem_cons.mpr ⟨fun _ _ _ _ _ _ _ _ _ _ _ _ _ _ _ _ _ _ X => so_last X (by decide +kernel), ?_⟩
  refine List.forall_mem_cons.mpr ⟨fun _ _ _ _ _ _ _ _ _ _ _ _ _ _ _ _ _ _ X => so_goto (off := 7) (tgt := 17) X (by decide +kernel) (by decide), ?_⟩
  refine List.forall_mem_cons.mpr ⟨fun _ _ _ _ _ _ _ _ _ _ _ _ _ _ _ _ _ _ X => so_iconst (n := 0) X (by decide +kernel), ?_⟩
  refine List.forall_mem_cons.mpr ⟨fun _ _ _ _ _ _ _ _ _ _ _ _ _ _ _ _ _ _ X => so_iret X rfl (by decide +kernel), ?_⟩
  exact fun _ h => absurd h List.not_mem_nil
set_option maxRecDepth 100000 in
set_option maxHeartbeats 4000000 in
theorem sj_133 {L : Nat} {xs : Nat → Int32} : ∀ q ∈ cd_133, SJ L xs (md_133) q := by
  refine List.forall_mem_cons.mpr ⟨fun _ _ _ _ _ _ _ _ _ _ _ _ _ _ _ _ _ _ X => so_aload_n (k := 2) X (by decide +kernel), ?_⟩
  refine List.forall_mem_cons.mpr ⟨fun _ _ _ _ _ _ _ _ _ _ _ _ _ _ _ _ _ _ X => so_iconst (n := 0) X (by decide +kernel), ?_⟩
  refine List.forall_mem_cons.mpr ⟨fun _ _ _ _ _ _ _ _ _ _ _ _ _ _ _ _ _ _ X => so_aload_n (k := 0) X (by decide +kernel), ?_⟩
  refine List.forall_mem_cons.mpr ⟨fun _ _ _ _ _ _ _ _ _ _ _ _ _ _ _ _ _ _ X => so_iload_n (k := 1) X (by decide +kernel), ?_⟩
  refine List.forall_mem_cons.mpr ⟨fun _ _ _ _ _ _ _ _ _ _ _ _ _ _ _ _ _ _ X => so_callV (i := 69) (cn := 8) (n := 1) X rfl rfl rfl wq_504 wq_505 wq_506 wq_33 wd_69 wc_69 (by decide +kernel), ?_⟩
  refine List.forall_mem_cons.mpr ⟨fun _ _ _ _ _ _ _ _ _ _ _ _ _ _ _ _ _ _ X => so_i2l X (by decide +kernel), ?_⟩
  refine List.forall_mem_cons.mpr ⟨fun _ _ _ _ _ _ _ _ _ _ _ _ _ _ _ _ _ _ X => so_last X (by decide +kernel), ?_⟩
  refine List.forall_mem_cons.mpr ⟨fun _ _ _ _ _ _ _ _ _ _ _ _ _ _ _ _ _ _ X => so_goto (off := 9) (tgt := 18) X (by decide +kernel) (by decide), ?_⟩
  refine List.forall_mem_cons.mpr ⟨fun _ _ _ _ _ _ _ _ _ _ _ _ _ _ _ _ _ _ X => so_iconst (n := 0) X (by decide +kernel), ?_⟩
  refine List.forall_mem_cons.mpr ⟨fun _ _ _ _ _ _ _ _ _ _ _ _ _ _ _ _ _ _ X => so_iret X rfl (by decide +kernel), ?_⟩
  exact fun _ h => absurd h List.not_mem_nil
set_option maxRecDepth 100000 in
set_option maxHeartbeats 4000000 in
theorem sj_134 {L : Nat} {xs : Nat → Int32} : ∀ q ∈ cd_134, SJ L xs (md_134) q := by
  refine List.forall_mem_cons.mpr ⟨fun _ _ _ _ _ _ _ _ _ _ _ _ _ _ _ _ _ _ X => so_aload_n (k := 3) X (by decide +kernel), ?_⟩
  refine List.forall_mem_cons.mpr ⟨fun _ _ _ _ _ _ _ _ _ _ _ _ _ _ _ _ _ _ X => so_iconst (n := 0) X (by decide +kernel), ?_⟩
  refine List.forall_mem_cons.mpr ⟨fun _ _ _ _ _ _ _ _ _ _ _ _ _ _ _ _ _ _ X => so_aload_n (k := 0) X (by decide +kernel), ?_⟩
  refine List.forall_mem_cons.mpr ⟨fun _ _ _ _ _ _ _ _ _ _ _ _ _ _ _ _ _ _ X => so_iload_n (k := 1) X (by decide +kernel), ?_⟩
  refine List.forall_mem_cons.mpr ⟨fun _ _ _ _ _ _ _ _ _ _ _ _ _ _ _ _ _ _ X => so_iload_n (k := 2) X (by decide +kernel), ?_⟩
  refine List.forall_mem_cons.mpr ⟨fun _ _ _ _ _ _ _ _ _ _ _ _ _ _ _ _ _ _ X => so_callV (i := 70) (cn := 8) (n := 2) X rfl rfl rfl wq_534 wq_535 wq_536 wq_33 wd_70 wc_70 (by decide +kernel), ?_⟩
  refine List.forall_mem_cons.mpr ⟨fun _ _ _ _ _ _ _ _ _ _ _ _ _ _ _ _ _ _ X => so_i2l X (by decide +kernel), ?_⟩
  refine List.forall_mem_cons.mpr ⟨fun _ _ _ _ _ _ _ _ _ _ _ _ _ _ _ _ _ _ X => so_last X (by decide +kernel), ?_⟩
  refine List.forall_mem_cons.mpr ⟨fun _ _ _ _ _ _ _ _ _ _ _ _ _ _ _ _ _ _ X => so_goto (off := 7) (tgt := 17) X (by decide +kernel) (by decide), ?_⟩
  refine List.forall_mem_cons.mpr ⟨fun _ _ _ _ _ _ _ _ _ _ _ _ _ _ _ _ _ _ X => so_iconst (n := 0) X (by decide +kernel), ?_⟩
  refine List.forall_mem_cons.mpr ⟨fun _ _ _ _ _ _ _ _ _ _ _ _ _ _ _ _ _ _ X => so_iret X rfl (by decide +kernel), ?_⟩
  exact fun _ h => absurd h List.not_mem_nil
set_option maxRecDepth 100000 in
set_option maxHeartbeats 4000000 in
theorem sj_135 {L : Nat} {xs : Nat → Int32} : ∀ q ∈ cd_135, SJ L xs (md_135) q := by
  refine List.forall_mem_cons.mpr ⟨fun _ _ _ _ _ _ _ _ _ _ _ _ _ _ _ _ _ _ X => so_aload_n (k := 3) X (by decide +kernel), ?_⟩
  refine List.forall_mem_cons.mpr ⟨fun _ _ _ _ _ _ _ _ _ _ _ _ _ _ _ _ _ _ X => so_iconst (n := 0) X (by decide +kernel), ?_⟩
  refine List.forall_mem_cons.mpr ⟨fun _ _ _ _ _ _ _ _ _ _ _ _ _ _ _ _ _ _ X => so_aload_n (k := 0) X (by decide +kernel), ?_⟩
  refine List.forall_mem_cons.mpr ⟨fun _ _ _ _ _ _ _ _ _ _ _ _ _ _ _ _ _ _ X => so_iload_n (k := 1) X (by decide +kernel), ?_⟩
  refine List.forall_mem_cons.mpr ⟨fun _ _ _ _ _ _ _ _ _ _ _ _ _ _ _ _ _ _ X => so_iload_n (k := 2) X (by decide +kernel), ?_⟩
  refine List.forall_mem_cons.mpr ⟨fun _ _ _ _ _ _ _ _ _ _ _ _ _ _ _ _ _ _ X => so_callV (i := 71) (cn := 8) (n := 2) X rfl rfl rfl wq_546 wq_547 wq_548 wq_33 wd_71 wc_71 (by decide +kernel), ?_⟩
  refine List.forall_mem_cons.mpr ⟨fun _ _ _ _ _ _ _ _ _ _ _ _ _ _ _ _ _ _ X => so_i2l X (by decide +kernel), ?_⟩
  refine List.forall_mem_cons.mpr ⟨fun _ _ _ _ _ _ _ _ _ _ _ _ _ _ _ _ _ _ X => so_last X (by decide +kernel), ?_⟩
  refine List.forall_mem_cons.mpr ⟨fun _ _ _ _ _ _ _ _ _ _ _ _ _ _ _ _ _ _ X => so_goto (off := 7) (tgt := 17) X (by decide +kernel) (by decide), ?_⟩
  refine List.forall_mem_cons.mpr ⟨fun _ _ _ _ _ _ _ _ _ _ _ _ _ _ _ _ _ _ X => so_iconst (n := 0) X (by decide +kernel), ?_⟩
  refine List.forall_mem_cons.mpr ⟨fun _ _ _ _ _ _ _ _ _ _ _ _ _ _ _ _ _ _ X => so_iret X rfl (by decide +kernel), ?_⟩
  exact fun _ h => absurd h List.not_mem_nil
set_option maxRecDepth 100000 in
set_option maxHeartbeats 4000000 in
theorem sj_136 {L : Nat} {xs : Nat → Int32} : ∀ q ∈ cd_136, SJ L xs (md_136) q := by
  refine List.forall_mem_cons.mpr ⟨fun _ _ _ _ _ _ _ _ _ _ _ _ _ _ _ _ _ _ X => so_aload_n (k := 3) X (by decide +kernel), ?_⟩
  refine List.forall_mem_cons.mpr ⟨fun _ _ _ _ _ _ _ _ _ _ _ _ _ _ _ _ _ _ X => so_iconst (n := 0) X (by decide +kernel), ?_⟩
  refine List.forall_mem_cons.mpr ⟨fun _ _ _ _ _ _ _ _ _ _ _ _ _ _ _ _ _ _ X => so_aload_n (k := 0) X (by decide +kernel), ?_⟩
  refine List.forall_mem_cons.mpr ⟨fun _ _ _ _ _ _ _ _ _ _ _ _ _ _ _ _ _ _ X => so_iload_n (k := 1) X (by decide +kernel), ?_⟩
  refine List.forall_mem_cons.mpr ⟨fun _ _ _ _ _ _ _ _ _ _ _ _ _ _ _ _ _ _ X => so_iload_n (k := 2) X (by decide +kernel), ?_⟩
  refine List.forall_mem_cons.mpr ⟨fun _ _ _ _ _ _ _ _ _ _ _ _ _ _ _ _ _ _ X => so_callV (i := 72) (cn := 8) (n := 2) X rfl rfl rfl wq_658 wq_659 wq_660 wq_33 wd_72 wc_72 (by decide +kernel), ?_⟩
  refine List.forall_mem_cons.mpr ⟨fun _ _ _ _ _ _ _ _ _ _ _ _ _ _ _ _ _ _ X => so_i2l X (by decide +kernel), ?_⟩
  refine List.forall_mem_cons.mpr ⟨fun _ _ _ _ _ _ _ _ _ _ _ _ _ _ _ _ _ _ X => so_last X (by decide +kernel), ?_⟩
  refine List.forall_mem_cons.mpr ⟨fun _ _ _ _ _ _ _ _ _ _ _ _ _ _ _ _ _ _ X => so_goto (off := 7) (tgt := 17) X (by decide +kernel) (by decide), ?_⟩
  refine List.forall_mem_cons.mpr ⟨fun _ _ _ _ _ _ _ _ _ _ _ _ _ _ _ _ _ _ X => so_iconst (n := 0) X (by decide +kernel), ?_⟩
  refine List.forall_mem_cons.mpr ⟨fun _ _ _ _ _ _ _ _ _ _ _ _ _ _ _ _ _ _ X => so_iret X rfl (by decide +kernel), ?_⟩
  exact fun _ h => absurd h List.not_mem_nil
set_option maxRecDepth 100000 in
set_option maxHeartbeats 4000000 in
theorem sj_137 {L : Nat} {xs : Nat → Int32} : ∀ q ∈ cd_137, SJ L xs (md_137) q := by
  refine List.forall_mem_cons.mpr ⟨fun _ _ _ _ _ _ _ _ _ _ _ _ _ _ _ _ _ _ X => so_aload_n (k := 2) X (by decide +kernel), ?_⟩
  refine List.forall_mem_cons.mpr ⟨fun _ _ _ _ _ _ _ _ _ _ _ _ _ _ _ _ _ _ X => so_iconst (n := 0) X (by decide +kernel), ?_⟩
  refine List.forall_mem_cons.mpr ⟨fun _ _ _ _ _ _ _ _ _ _ _ _ _ _ _ _ _ _ X => so_aload_n (k := 0) X (by decide +kernel), ?_⟩
  refine List.forall_mem_cons.mpr ⟨fun _ _ _ _ _ _ _ _ _ _ _ _ _ _ _ _ _ _ X => so_iload_n (k := 1) X (by decide +kernel), ?_⟩
  refine List.forall_mem_cons.mpr ⟨fun _ _ _ _ _ _ _ _ _ _ _ _ _ _ _ _ _ _ X => so_callV (i := 73) (cn := 8) (n := 1) X rfl rfl rfl wq_665 wq_666 wq_667 wq_33 wd_73 wc_73 (by decide +kernel), ?_⟩
  refine List.forall_mem_cons.mpr ⟨fun _ _ _ _ _ _ _ _ _ _ _ _ _ _ _ _ _ _ X => so_last X (by decide +kernel), ?_⟩
  refine List.forall_mem_cons.mpr ⟨fun _ _ _ _ _ _ _ _ _ _ _ _ _ _ _ _ _ _ X => so_goto (off := 9) (tgt := 17) X (by decide +kernel) (by decide), ?_⟩
  refine List.forall_mem_cons.mpr ⟨fun _ _ _ _ _ _ _ _ _ _ _ _ _ _ _ _ _ _ X => so_iconst (n := 0) X (by decide +kernel), ?_⟩
  refine List.forall_mem_cons.mpr ⟨fun _ _ _ _ _ _ _ _ _ _ _ _ _ _ _ _ _ _ X => so_iret X rfl (by decide +kernel), ?_⟩
  exact fun _ h => absurd h List.not_mem_nil
set_option maxRecDepth 100000 in
set_option maxHeartbeats 4000000 in
theorem sj_138 {L : Nat} {xs : Nat → Int32} : ∀ q ∈ cd_138, SJ L xs (md_138) q := by
  refine List.forall_mem_cons.mpr ⟨fun _ _ _ _ _ _ _ _ _ _ _ _ _ _ _ _ _ _ X => so_aload_n (k := 1) X (by decide +kernel), ?_⟩
  refine List.forall_mem_cons.mpr ⟨fun _ _ _ _ _ _ _ _ _ _ _ _ _ _ _ _ _ _ X => so_iconst (n := 0) X (by decide +kernel), ?_⟩
  refine List.forall_mem_cons.mpr ⟨fun _ _ _ _ _ _ _ _ _ _ _ _ _ _ _ _ _ _ X => so_aload_n (k := 0) X (by decide +kernel), ?_⟩
  refine List.forall_mem_cons.mpr ⟨fun _ _ _ _ _ _ _ _ _ _ _ _ _ _ _ _ _ _ X => so_callV (i := 74) (cn := 8) (n := 0) X rfl rfl rfl wq_681 wq_682 wq_683 wq_33 wd_74 wc_74 (by decide +kernel), ?_⟩
  refine List.forall_mem_cons.mpr ⟨fun _ _ _ _ _ _ _ _ _ _ _ _ _ _ _ _ _ _ X => so_i2l X (by decide +kernel), ?_⟩
  refine List.forall_mem_cons.mpr ⟨fun _ _ _ _ _ _ _ _ _ _ _ _ _ _ _ _ _ _ X => so_last X (by decide +kernel), ?_⟩
  refine List.forall_mem_cons.mpr ⟨fun _ _ _ _ _ _ _ _ _ _ _ _ _ _ _ _ _ _ X => so_goto (off := 6) (tgt := 14) X (by decide +kernel) (by decide), ?_⟩
  refine List.forall_mem_cons.mpr ⟨fun _ _ _ _ _ _ _ _ _ _ _ _ _ _ _ _ _ _ X => so_iconst (n := 0) X (by decide +kernel), ?_⟩
  refine List.forall_mem_cons.mpr ⟨fun _ _ _ _ _ _ _ _ _ _ _ _ _ _ _ _ _ _ X => so_iret X rfl (by decide +kernel), ?_⟩
  exact fun _ h => absurd h List.not_mem_nil
set_option maxRecDepth 100000 in
set_option maxHeartbeats 4000000 in
theorem sj_139 {L : Nat} {xs : Nat → Int32} : ∀ q ∈ cd_139, SJ L xs (md_139) q := by
  refine List.forall_mem_cons.mpr ⟨fun _ _ _ _ _ _ _ _ _ _ _ _ _ _ _ _ _ _ X => so_aload_n (k := 3) X (by decide +kernel), ?_⟩
  refine List.forall_mem_cons.mpr ⟨fun _ _ _ _ _ _ _ _ _ _ _ _ _ _ _ _ _ _ X => so_iconst (n := 0) X (by decide +kernel), ?_⟩
  refine List.forall_mem_cons.mpr ⟨fun _ _ _ _ _ _ _ _ _ _ _ _ _ _ _ _ _ _ X => so_aload_n (k := 0) X (by decide +kernel), ?_⟩
  refine List.forall_mem_cons.mpr ⟨fun _ _ _ _ _ _ _ _ _ _ _ _ _ _ _ _ _ _ X => so_iload_n (k := 1) X (by decide +kernel), ?_⟩
  refine List.forall_mem_cons.mpr ⟨fun _ _ _ _ _ _ _ _ _ _ _ _ _ _ _ _ _ _ X => so_iload_n (k := 2) X (by decide +kernel), ?_⟩
  refine List.forall_mem_cons.mpr ⟨fun _ _ _ _ _ _ _ _ _ _ _ _ _ _ _ _ _ _ X => so_callV (i := 75) (cn := 8) (n := 2) X rfl rfl rfl wq_692 wq_693 wq_694 wq_33 wd_75 wc_75 (by decide +kernel), ?_⟩
  refine List.forall_mem_cons.mpr ⟨fun _ _ _ _ _ _ _ _ _ _ _ _ _ _ _ _ _ _ X => so_i2l X (by decide +kernel), ?_⟩
  refine List.forall_mem_cons.mpr ⟨fun _ _ _ _ _ _ _ _ _ _ _ _ _ _ _ _ _ _ X => so_last X (by decide +kernel), ?_⟩
  refine List.forall_mem_cons.mpr ⟨fun _ _ _ _ _ _ _ _ _ _ _ _ _ _ _ _ _ _ X => so_goto (off := 7) (tgt := 17) X (by decide +kernel) (by decide), ?_⟩
  refine List.forall_mem_cons.mpr ⟨fun _ _ _ _ _ _ _ _ _ _ _ _ _ _ _ _ _ _ X => so_iconst (n := 0) X (by decide +kernel), ?_⟩
  refine List.forall_mem_cons.mpr ⟨fun _ _ _ _ _ _ _ _ _ _ _ _ _ _ _ _ _ _ X => so_iret X rfl (by decide +kernel), ?_⟩
  exact fun _ h => absurd h List.not_mem_nil
set_option maxRecDepth 100000 in
set_option maxHeartbeats 4000000 in
theorem sj_140 {L : Nat} {xs : Nat → Int32} : ∀ q ∈ cd_140, SJ L xs (md_140) q := by
  refine List.forall_mem_cons.mpr ⟨fun _ _ _ _ _ _ _ _ _ _ _ _ _ _ _ _ _ _ X => so_aload_n (k := 3) X (by decide +kernel), ?_⟩
  refine List.forall_mem_cons.mpr ⟨fun _ _ _ _ _ _ _ _ _ _ _ _ _ _ _ _ _ _ X => so_iconst (n := 0) X (by decide +kernel), ?_⟩
  refine List.forall_mem_cons.mpr ⟨fun _ _ _ _ _ _ _ _ _ _ _ _ _ _ _ _ _ _ X => so_aload_n (k := 0) X (by decide +kernel), ?_⟩
  refine List.forall_mem_cons.mpr ⟨fun _ _ _ _ _ _ _ _ _ _ _ _ _ _ _ _ _ _ X => so_iload_n (k := 1) X (by decide +kernel), ?_⟩
  refine List.forall_mem_cons.mpr ⟨fun _ _ _ _ _ _ _ _ _ _ _ _ _ _ _ _ _ _ X => so_iload_n (k := 2) X (by decide +kernel), ?_⟩
  refine List.forall_mem_cons.mpr ⟨fun _ _ _ _ _ _ _ _ _ _ _ _ _ _ _ _ _ _ X => so_callV (i := 76) (cn := 8) (n := 2) X rfl rfl rfl wq_727 wq_728 wq_729 wq_33 wd_76 wc_76 (by decide +kernel), ?_⟩
  refine List.forall_mem_cons.mpr ⟨fun _ _ _ _ _ _ _ _ _ _ _ _ _ _ _ _ _ _ X => so_i2l X (by decide +kernel), ?_⟩
  refine List.forall_mem_cons.mpr ⟨fun _ _ _ _ _ _ _ _ _ _ _ _ _ _ _ _ _ _ X => so_last X (by decide +kernel), ?_⟩
  refine List.forall_mem_cons.mpr ⟨fun _ _ _ _ _ _ _ _ _ _ _ _ _ _ _ _ _ _ X => so_goto (off := 7) (tgt := 17) X (by decide +kernel) (by decide), ?_⟩
  refine List.forall_mem_cons.mpr ⟨fun _ _ _ _ _ _ _ _ _ _ _ _ _ _ _ _ _ _ X => so_iconst (n := 0) X (by decide +kernel), ?_⟩
  refine List.forall_mem_cons.mpr ⟨fun _ _ _ _ _ _ _ _ _ _ _ _ _ _ _ _ _ _ X => so_iret X rfl (by decide +kernel), ?_⟩
  exact fun _ h => absurd h List.not_mem_nil
set_option maxRecDepth 100000 in
set_option maxHeartbeats 4000000 in
theorem sj_141 {L : Nat} {xs : Nat → Int32} (hL : L ≤ 1536) : ∀ q ∈ cd_141 L xs, SJ L xs (md_141 L xs) q := by
  refine List.forall_mem_cons.mpr ⟨fun _ _ _ _ _ _ _ _ _ _ _ _ _ _ _ _ _ _ X => so_new (cn := 8) X rfl wq_51 wq_52 wq_33 (show decode code 0 = .ok (.new 8, 3) from by decide +kernel), ?_⟩
  refine List.forall_mem_cons.mpr ⟨fun _ _ _ _ _ _ _ _ _ _ _ _ _ _ _ _ _ _ X => so_dup X (show decode code 3 = .ok (.dup, 1) from by decide +kernel), ?_⟩
  refine List.forall_mem_cons.mpr ⟨fun _ _ _ _ _ _ _ _ _ _ _ _ _ _ _ _ _ _ X => so_callI (i := 61) (cn := 8) (n := 0) X rfl rfl rfl wq_53 wq_54 wq_33 wd_61 wc_61 (show decode code 4 = .ok (.invokespecial 63, 3) from by decide +kernel), ?_⟩
  refine List.forall_mem_cons.mpr ⟨fun _ _ _ _ _ _ _ _ _ _ _ _ _ _ _ _ _ _ X => so_astore_n (k := 1) X (show decode code 7 = .ok (.astore_n 1, 1) from by decide +kernel), ?_⟩
  refine List.forall_mem_cons.mpr ⟨fun _ _ _ _ _ _ _ _ _ _ _ _ _ _ _ _ _ _ X => so_new (cn := 9) X rfl wq_731 wq_732 wq_43 (show decode code 8 = .ok (.new 64, 3) from by decide +kernel), ?_⟩
  refine List.forall_mem_cons.mpr ⟨fun _ _ _ _ _ _ _ _ _ _ _ _ _ _ _ _ _ _ X => so_dup X (show decode code 11 = .ok (.dup, 1) from by decide +kernel), ?_⟩
  refine List.forall_mem_cons.mpr ⟨fun _ _ _ _ _ _ _ _ _ _ _ _ _ _ _ _ _ _ X => so_callI (i := 91) (cn := 9) (n := 0) X rfl rfl rfl wq_733 wq_734 wq_43 wd_91 wc_91 (show decode code 12 = .ok (.invokespecial 66, 3) from by decide +kernel), ?_⟩
  refine List.forall_mem_cons.mpr ⟨fun _ _ _ _ _ _ _ _ _ _ _ _ _ _ _ _ _ _ X => so_astore_n (k := 2) X (show decode code 15 = .ok (.astore_n 2, 1) from by decide +kernel), ?_⟩
  refine List.forall_mem_cons.mpr ⟨fun _ _ _ _ _ _ _ _ _ _ _ _ _ _ _ _ _ _ X => so_iconst (n := 1) X (show decode code 16 = .ok (.iconst 1, 1) from by decide +kernel), ?_⟩
  refine List.forall_mem_cons.mpr ⟨fun _ _ _ _ _ _ _ _ _ _ _ _ _ _ _ _ _ _ X => so_newa_j X wq_184 (show decode code 17 = .ok (.newarray .long, 2) from by decide +kernel), ?_⟩
  refine List.forall_mem_cons.mpr ⟨fun _ _ _ _ _ _ _ _ _ _ _ _ _ _ _ _ _ _ X => so_astore_n (k := 3) X (show decode code 19 = .ok (.astore_n 3, 1) from by decide +kernel), ?_⟩
  refine List.forall_mem_cons.mpr ⟨fun _ _ _ _ _ _ _ _ _ _ _ _ _ _ _ _ _ _ X => so_iconst (n := 0) X (show decode code 20 = .ok (.iconst 0, 1) from by decide +kernel), ?_⟩
  refine List.forall_mem_cons.mpr ⟨fun _ _ _ _ _ _ _ _ _ _ _ _ _ _ _ _ _ _ X => so_istore (k := 4) X (show decode code 21 = .ok (.istore 4, 2) from by decide +kernel), ?_⟩
  refine List.forall_mem_cons.mpr ⟨fun _ _ _ _ _ _ _ _ _ _ _ _ _ _ _ _ _ _ X => so_iload (k := 4) X (show decode code 23 = .ok (.iload 4, 2) from by decide +kernel), ?_⟩
  refine List.forall_mem_cons.mpr ⟨fun _ _ _ _ _ _ _ _ _ _ _ _ _ _ _ _ _ _ X => so_aload_n (k := 0) X (show decode code 25 = .ok (.aload_n 0, 1) from by decide +kernel), ?_⟩
  refine List.forall_mem_cons.mpr ⟨fun _ _ _ _ _ _ _ _ _ _ _ _ _ _ _ _ _ _ X => so_slen X (show decode code 26 = .ok (.arraylength, 1) from by decide +kernel), ?_⟩
  refine List.forall_mem_cons.mpr ⟨fun _ _ _ _ _ _ _ _ _ _ _ _ _ _ _ _ _ _ X => so_iconst (n := 3) X (show decode code 27 = .ok (.iconst 3, 1) from by decide +kernel), ?_⟩
  refine List.forall_mem_cons.mpr ⟨fun _ _ _ _ _ _ _ _ _ _ _ _ _ _ _ _ _ _ X => so_isub X (show decode code 28 = .ok (.isub, 1) from by decide +kernel), ?_⟩
  refine List.forall_mem_cons.mpr ⟨fun _ _ _ _ _ _ _ _ _ _ _ _ _ _ _ _ _ _ X => so_icmp_gt (off := 975) (tgt := 1004) X (show decode code 29 = .ok (.if_icmp .gt 975, 3) from by decide +kernel) (by decide), ?_⟩
  refine List.forall_mem_cons.mpr ⟨fun _ _ _ _ _ _ _ _ _ _ _ _ _ _ _ _ _ _ X => so_aload_n (k := 0) X (show decode code 32 = .ok (.aload_n 0, 1) from by decide +kernel), ?_⟩
  refine List.forall_mem_cons.mpr ⟨fun _ _ _ _ _ _ _ _ _ _ _ _ _ _ _ _ _ _ X => so_iload (k := 4) X (show decode code 33 = .ok (.iload 4, 2) from by decide +kernel), ?_⟩
  refine List.forall_mem_cons.mpr ⟨fun _ _ _ _ _ _ _ _ _ _ _ _ _ _ _ _ _ _ X => so_sld X hL (show decode code 35 = .ok (.iaload, 1) from by decide +kernel), ?_⟩
  refine List.forall_mem_cons.mpr ⟨fun _ _ _ _ _ _ _ _ _ _ _ _ _ _ _ _ _ _ X => so_bipush (n := 15) X (by decide +kernel) (show decode code 36 = .ok (.bipush 15, 2) from by decide +kernel), ?_⟩
  refine List.forall_mem_cons.mpr ⟨fun _ _ _ _ _ _ _ _ _ _ _ _ _ _ _ _ _ _ X => so_iand X (show decode code 38 = .ok (.iand, 1) from by decide +kernel), ?_⟩
  refine List.forall_mem_cons.mpr ⟨fun _ _ _ _ _ _ _ _ _ _ _ _ _ _ _ _ _ _ X => so_tsw (dflt := 959) (hi := 15) (offs := #[77, 135, 191, 235, 326, 370, 383, 451, 507, 575, 643, 711, 766, 810, 878, 946]) (len := 77) (tgts := [116, 174, 230, 274, 365, 409, 422, 490, 546, 614, 682, 750, 805, 849, 917, 985]) X (show decode code 39 = .ok (.tableswitch 959 0 15 #[77, 135, 191, 235, 326, 370, 383, 451, 507, 575, 643, 711, 766, 810, 878, 946], 77) from by decide +kernel) (by decide) (by decide +kernel), ?_⟩
  refine List.forall_mem_cons.mpr ⟨fun _ _ _ _ _ _ _ _ _ _ _ _ _ _ _ _ _ _ X => so_aload_n (k := 1) X (show decode code 116 = .ok (.aload_n 1, 1) from by decide +kernel), ?_⟩
  refine List.forall_mem_cons.mpr ⟨fun _ _ _ _ _ _ _ _ _ _ _ _ _ _ _ _ _ _ X => so_aload_n (k := 0) X (show decode code 117 = .ok (.aload_n 0, 1) from by decide +kernel), ?_⟩
  refine List.forall_mem_cons.mpr ⟨fun _ _ _ _ _ _ _ _ _ _ _ _ _ _ _ _ _ _ X => so_iload (k := 4) X (show decode code 118 = .ok (.iload 4, 2) from by decide +kernel), ?_⟩
  refine List.forall_mem_cons.mpr ⟨fun _ _ _ _ _ _ _ _ _ _ _ _ _ _ _ _ _ _ X => so_iconst (n := 1) X (show decode code 120 = .ok (.iconst 1, 1) from by decide +kernel), ?_⟩
  refine List.forall_mem_cons.mpr ⟨fun _ _ _ _ _ _ _ _ _ _ _ _ _ _ _ _ _ _ X => so_iadd X (show decode code 121 = .ok (.iadd, 1) from by decide +kernel), ?_⟩
  refine List.forall_mem_cons.mpr ⟨fun _ _ _ _ _ _ _ _ _ _ _ _ _ _ _ _ _ _ X => so_sld X hL (show decode code 122 = .ok (.iaload, 1) from by decide +kernel), ?_⟩
  refine List.forall_mem_cons.mpr ⟨fun _ _ _ _ _ _ _ _ _ _ _ _ _ _ _ _ _ _ X => so_i2c X (show decode code 123 = .ok (.i2c, 1) from by decide +kernel), ?_⟩
  refine List.forall_mem_cons.mpr ⟨fun _ _ _ _ _ _ _ _ _ _ _ _ _ _ _ _ _ _ X => so_aload_n (k := 3) X (show decode code 124 = .ok (.aload_n 3, 1) from by decide +kernel), ?_⟩
  refine List.forall_mem_cons.mpr ⟨fun _ _ _ _ _ _ _ _ _ _ _ _ _ _ _ _ _ _ X => so_callSW (i := 127) (n := 3) X rfl wq_263 wq_264 wq_32 wd_127 wc_127 (show decode code 125 = .ok (.invokestatic 67, 3) from by decide +kernel), ?_⟩
  refine List.forall_mem_cons.mpr ⟨fun _ _ _ _ _ _ _ _ _ _ _ _ _ _ _ _ _ _ X => so_istore (k := 5) X (show decode code 128 = .ok (.istore 5, 2) from by decide +kernel), ?_⟩
  refine List.forall_mem_cons.mpr ⟨fun _ _ _ _ _ _ _ _ _ _ _ _ _ _ _ _ _ _ X => so_aload_n (k := 2) X (show decode code 130 = .ok (.aload_n 2, 1) from by decide +kernel), ?_⟩
  refine List.forall_mem_cons.mpr ⟨fun _ _ _ _ _ _ _ _ _ _ _ _ _ _ _ _ _ _ X => so_aload_n (k := 0) X (show decode code 131 = .ok (.aload_n 0, 1) from by decide +kernel), ?_⟩
  refine List.forall_mem_cons.mpr ⟨fun _ _ _ _ _ _ _ _ _ _ _ _ _ _ _ _ _ _ X => so_iload (k := 4) X (show decode code 132 = .ok (.iload 4, 2) from by decide +kernel), ?_⟩
  refine List.forall_mem_cons.mpr ⟨fun _ _ _ _ _ _ _ _ _ _ _ _ _ _ _ _ _ _ X => so_iconst (n := 1) X (show decode code 134 = .ok (.iconst 1, 1) from by decide +kernel), ?_⟩
  refine List.forall_mem_cons.mpr ⟨fun _ _ _ _ _ _ _ _ _ _ _ _ _ _ _ _ _ _ X => so_iadd X (show decode code 135 = .ok (.iadd, 1) from by decide +kernel), ?_⟩
  refine List.forall_mem_cons.mpr ⟨fun _ _ _ _ _ _ _ _ _ _ _ _ _ _ _ _ _ _ X => so_sld X hL (show decode code 136 = .ok (.iaload, 1) from by decide +kernel), ?_⟩
  refine List.forall_mem_cons.mpr ⟨fun _ _ _ _ _ _ _ _ _ _ _ _ _ _ _ _ _ _ X => so_i2c X (show decode code 137 = .ok (.i2c, 1) from by decide +kernel), ?_⟩
  refine List.forall_mem_cons.mpr ⟨fun _ _ _ _ _ _ _ _ _ _ _ _ _ _ _ _ _ _ X => so_callV (i := 97) (cn := 9) (n := 1) X rfl rfl rfl wq_809 wq_810 wq_811 wq_43 wd_97 wc_97 (show decode code 138 = .ok (.invokevirtual 72, 3) from by decide +kernel), ?_⟩
  refine List.forall_mem_cons.mpr ⟨fun _ _ _ _ _ _ _ _ _ _ _ _ _ _ _ _ _ _ X => so_istore (k := 6) X (show decode code 141 = .ok (.istore 6, 2) from by decide +kernel), ?_⟩
  refine List.forall_mem_cons.mpr ⟨fun _ _ _ _ _ _ _ _ _ _ _ _ _ _ _ _ _ _ X => so_aload_n (k := 2) X (show decode code 143 = .ok (.aload_n 2, 1) from by decide +kernel), ?_⟩
  refine List.forall_mem_cons.mpr ⟨fun _ _ _ _ _ _ _ _ _ _ _ _ _ _ _ _ _ _ X => so_callV (i := 92) (cn := 9) (n := 0) X rfl rfl rfl wq_805 wq_806 wq_807 wq_43 wd_92 wc_92 (show decode code 144 = .ok (.invokevirtual 73, 3) from by decide +kernel), ?_⟩
  refine List.forall_mem_cons.mpr ⟨fun _ _ _ _ _ _ _ _ _ _ _ _ _ _ _ _ _ _ X => so_iload (k := 5) X (show decode code 147 = .ok (.iload 5, 2) from by decide +kernel), ?_⟩
  refine List.forall_mem_cons.mpr ⟨fun _ _ _ _ _ _ _ _ _ _ _ _ _ _ _ _ _ _ X => so_icmp_eq (off := 5) (tgt := 154) X (show decode code 149 = .ok (.if_icmp .eq 5, 3) from by decide +kernel) (by decide), ?_⟩
  refine List.forall_mem_cons.mpr ⟨fun _ _ _ _ _ _ _ _ _ _ _ _ _ _ _ _ _ _ X => so_iconst (n := 0) X (show decode code 152 = .ok (.iconst 0, 1) from by decide +kernel), ?_⟩
  refine List.forall_mem_cons.mpr ⟨fun _ _ _ _ _ _ _ _ _ _ _ _ _ _ _ _ _ _ X => so_zret X rfl (show decode code 153 = .ok (.ireturn, 1) from by decide +kernel), ?_⟩
  refine List.forall_mem_cons.mpr ⟨fun _ _ _ _ _ _ _ _ _ _ _ _ _ _ _ _ _ _ X => so_iload (k := 5) X (show decode code 154 = .ok (.iload 5, 2) from by decide +kernel), ?_⟩
  refine List.forall_mem_cons.mpr ⟨fun _ _ _ _ _ _ _ _ _ _ _ _ _ _ _ _ _ _ X => so_if_ne (off := 15) (tgt := 171) X (show decode code 156 = .ok (.ifCond .ne 15, 3) from by decide +kernel) (by decide), ?_⟩
  refine List.forall_mem_cons.mpr ⟨fun _ _ _ _ _ _ _ _ _ _ _ _ _ _ _ _ _ _ X => so_aload_n (k := 3) X (show decode code 159 = .ok (.aload_n 3, 1) from by decide +kernel), ?_⟩
  refine List.forall_mem_cons.mpr ⟨fun _ _ _ _ _ _ _ _ _ _ _ _ _ _ _ _ _ _ X => so_iconst (n := 0) X (show decode code 160 = .ok (.iconst 0, 1) from by decide +kernel), ?_⟩
  refine List.forall_mem_cons.mpr ⟨fun _ _ _ _ _ _ _ _ _ _ _ _ _ _ _ _ _ _ X => so_lald X (show decode code 161 = .ok (.laload, 1) from by decide +kernel), ?_⟩
  refine List.forall_mem_cons.mpr ⟨fun _ _ _ _ _ _ _ _ _ _ _ _ _ _ _ _ _ _ X => so_iload (k := 6) X (show decode code 162 = .ok (.iload 6, 2) from by decide +kernel), ?_⟩
  refine List.forall_mem_cons.mpr ⟨fun _ _ _ _ _ _ _ _ _ _ _ _ _ _ _ _ _ _ X => so_i2l X (show decode code 164 = .ok (.i2l, 1) from by decide +kernel), ?_⟩
  refine List.forall_mem_cons.mpr ⟨fun _ _ _ _ _ _ _ _ _ _ _ _ _ _ _ _ _ _ X => so_lcmp X (show decode code 165 = .ok (.lcmp, 1) from by decide +kernel), ?_⟩
  refine List.forall_mem_cons.mpr ⟨fun _ _ _ _ _ _ _ _ _ _ _ _ _ _ _ _ _ _ X => so_if_eq (off := 5) (tgt := 171) X (show decode code 166 = .ok (.ifCond .eq 5, 3) from by decide +kernel) (by decide), ?_⟩
  refine List.forall_mem_cons.mpr ⟨fun _ _ _ _ _ _ _ _ _ _ _ _ _ _ _ _ _ _ X => so_iconst (n := 0) X (show decode code 169 = .ok (.iconst 0, 1) from by decide +kernel), ?_⟩
  refine List.forall_mem_cons.mpr ⟨fun _ _ _ _ _ _ _ _ _ _ _ _ _ _ _ _ _ _ X => so_zret X rfl (show decode code 170 = .ok (.ireturn, 1) from by decide +kernel), ?_⟩
  refine List.forall_mem_cons.mpr ⟨fun _ _ _ _ _ _ _ _ _ _ _ _ _ _ _ _ _ _ X => so_goto (off := 827) (tgt := 998) X (show decode code 171 = .ok (.goto 827, 3) from by decide +kernel) (by decide), ?_⟩
  refine List.forall_mem_cons.mpr ⟨fun _ _ _ _ _ _ _ _ _ _ _ _ _ _ _ _ _ _ X => so_aload_n (k := 1) X (show decode code 174 = .ok (.aload_n 1, 1) from by decide +kernel), ?_⟩
  refine List.forall_mem_cons.mpr ⟨fun _ _ _ _ _ _ _ _ _ _ _ _ _ _ _ _ _ _ X => so_aload_n (k := 0) X (show decode code 175 = .ok (.aload_n 0, 1) from by decide +kernel), ?_⟩
  refine List.forall_mem_cons.mpr ⟨fun _ _ _ _ _ _ _ _ _ _ _ _ _ _ _ _ _ _ X => so_iload (k := 4) X (show decode code 176 = .ok (.iload 4, 2) from by decide +kernel), ?_⟩
  refine List.forall_mem_cons.mpr ⟨fun _ _ _ _ _ _ _ _ _ _ _ _ _ _ _ _ _ _ X => so_iconst (n := 1) X (show decode code 178 = .ok (.iconst 1, 1) from by decide +kernel), ?_⟩
  refine List.forall_mem_cons.mpr ⟨fun _ _ _ _ _ _ _ _ _ _ _ _ _ _ _ _ _ _ X => so_iadd X (show decode code 179 = .ok (.iadd, 1) from by decide +kernel), ?_⟩
  refine List.forall_mem_cons.mpr ⟨fun _ _ _ _ _ _ _ _ _ _ _ _ _ _ _ _ _ _ X => so_sld X hL (show decode code 180 = .ok (.iaload, 1) from by decide +kernel), ?_⟩
  refine List.forall_mem_cons.mpr ⟨fun _ _ _ _ _ _ _ _ _ _ _ _ _ _ _ _ _ _ X => so_aload_n (k := 3) X (show decode code 181 = .ok (.aload_n 3, 1) from by decide +kernel), ?_⟩
  refine List.forall_mem_cons.mpr ⟨fun _ _ _ _ _ _ _ _ _ _ _ _ _ _ _ _ _ _ X => so_callSW (i := 128) (n := 3) X rfl wq_364 wq_365 wq_32 wd_128 wc_128 (show decode code 182 = .ok (.invokestatic 76, 3) from by decide +kernel), ?_⟩
  refine List.forall_mem_cons.mpr ⟨fun _ _ _ _ _ _ _ _ _ _ _ _ _ _ _ _ _ _ X => so_istore (k := 5) X (show decode code 185 = .ok (.istore 5, 2) from by decide +kernel), ?_⟩
  refine List.forall_mem_cons.mpr ⟨fun _ _ _ _ _ _ _ _ _ _ _ _ _ _ _ _ _ _ X => so_aload_n (k := 2) X (show decode code 187 = .ok (.aload_n 2, 1) from by decide +kernel), ?_⟩
  refine List.forall_mem_cons.mpr ⟨fun _ _ _ _ _ _ _ _ _ _ _ _ _ _ _ _ _ _ X => so_aload_n (k := 0) X (show decode code 188 = .ok (.aload_n 0, 1) from by decide +kernel), ?_⟩
  refine List.forall_mem_cons.mpr ⟨fun _ _ _ _ _ _ _ _ _ _ _ _ _ _ _ _ _ _ X => so_iload (k := 4) X (show decode code 189 = .ok (.iload 4, 2) from by decide +kernel), ?_⟩
  refine List.forall_mem_cons.mpr ⟨fun _ _ _ _ _ _ _ _ _ _ _ _ _ _ _ _ _ _ X => so_iconst (n := 1) X (show decode code 191 = .ok (.iconst 1, 1) from by decide +kernel), ?_⟩
  refine List.forall_mem_cons.mpr ⟨fun _ _ _ _ _ _ _ _ _ _ _ _ _ _ _ _ _ _ X => so_iadd X (show decode code 192 = .ok (.iadd, 1) from by decide +kernel), ?_⟩
  refine List.forall_mem_cons.mpr ⟨fun _ _ _ _ _ _ _ _ _ _ _ _ _ _ _ _ _ _ X => so_sld X hL (show decode code 193 = .ok (.iaload, 1) from by decide +kernel), ?_⟩
  refine List.forall_mem_cons.mpr ⟨fun _ _ _ _ _ _ _ _ _ _ _ _ _ _ _ _ _ _ X => so_callV (i := 99) (cn := 9) (n := 1) X rfl rfl rfl wq_820 wq_821 wq_822 wq_43 wd_99 wc_99 (show decode code 194 = .ok (.invokevirtual 79, 3) from by decide +kernel), ?_⟩
  refine List.forall_mem_cons.mpr ⟨fun _ _ _ _ _ _ _ _ _ _ _ _ _ _ _ _ _ _ X => so_istore (k := 6) X (show decode code 197 = .ok (.istore 6, 2) from by decide +kernel), ?_⟩
  refine List.forall_mem_cons.mpr ⟨fun _ _ _ _ _ _ _ _ _ _ _ _ _ _ _ _ _ _ X => so_aload_n (k := 2) X (show decode code 199 = .ok (.aload_n 2, 1) from by decide +kernel), ?_⟩
  refine List.forall_mem_cons.mpr ⟨fun _ _ _ _ _ _ _ _ _ _ _ _ _ _ _ _ _ _ X => so_callV (i := 92) (cn := 9) (n := 0) X rfl rfl rfl wq_805 wq_806 wq_807 wq_43 wd_92 wc_92 (show decode code 200 = .ok (.invokevirtual 73, 3) from by decide +kernel), ?_⟩
  refine List.forall_mem_cons.mpr ⟨fun _ _ _ _ _ _ _ _ _ _ _ _ _ _ _ _ _ _ X => so_iload (k := 5) X (show decode code 203 = .ok (.iload 5, 2) from by decide +kernel), ?_⟩
  refine List.forall_mem_cons.mpr ⟨fun _ _ _ _ _ _ _ _ _ _ _ _ _ _ _ _ _ _ X => so_icmp_eq (off := 5) (tgt := 210) X (show decode code 205 = .ok (.if_icmp .eq 5, 3) from by decide +kernel) (by decide), ?_⟩
  refine List.forall_mem_cons.mpr ⟨fun _ _ _ _ _ _ _ _ _ _ _ _ _ _ _ _ _ _ X => so_iconst (n := 0) X (show decode code 208 = .ok (.iconst 0, 1) from by decide +kernel), ?_⟩
  refine List.forall_mem_cons.mpr ⟨fun _ _ _ _ _ _ _ _ _ _ _ _ _ _ _ _ _ _ X => so_zret X rfl (show decode code 209 = .ok (.ireturn, 1) from by decide +kernel), ?_⟩
  refine List.forall_mem_cons.mpr ⟨fun _ _ _ _ _ _ _ _ _ _ _ _ _ _ _ _ _ _ X => so_iload (k := 5) X (show decode code 210 = .ok (.iload 5, 2) from by decide +kernel), ?_⟩
  refine List.forall_mem_cons.mpr ⟨fun _ _ _ _ _ _ _ _ _ _ _ _ _ _ _ _ _ _ X => so_if_ne (off := 15) (tgt := 227) X (show decode code 212 = .ok (.ifCond .ne 15, 3) from by decide +kernel) (by decide), ?_⟩
  refine List.forall_mem_cons.mpr ⟨fun _ _ _ _ _ _ _ _ _ _ _ _ _ _ _ _ _ _ X => so_aload_n (k := 3) X (show decode code 215 = .ok (.aload_n 3, 1) from by decide +kernel), ?_⟩
  refine List.forall_mem_cons.mpr ⟨fun _ _ _ _ _ _ _ _ _ _ _ _ _ _ _ _ _ _ X => so_iconst (n := 0) X (show decode code 216 = .ok (.iconst 0, 1) from by decide +kernel), ?_⟩
  refine List.forall_mem_cons.mpr ⟨fun _ _ _ _ _ _ _ _ _ _ _ _ _ _ _ _ _ _ X => so_lald X (show decode code 217 = .ok (.laload, 1) from by decide +kernel), ?_⟩
  refine List.forall_mem_cons.mpr ⟨fun _ _ _ _ _ _ _ _ _ _ _ _ _ _ _ _ _ _ X => so_iload (k := 6) X (show decode code 218 = .ok (.iload 6, 2) from by decide +kernel), ?_⟩
  refine List.forall_mem_cons.mpr ⟨fun _ _ _ _ _ _ _ _ _ _ _ _ _ _ _ _ _ _ X => so_i2l X (show decode code 220 = .ok (.i2l, 1) from by decide +kernel), ?_⟩
  refine List.forall_mem_cons.mpr ⟨fun _ _ _ _ _ _ _ _ _ _ _ _ _ _ _ _ _ _ X => so_lcmp X (show decode code 221 = .ok (.lcmp, 1) from by decide +kernel), ?_⟩
  refine List.forall_mem_cons.mpr ⟨fun _ _ _ _ _ _ _ _ _ _ _ _ _ _ _ _ _ _ X => so_if_eq (off := 5) (tgt := 227) X (show decode code 222 = .ok (.ifCond .eq 5, 3) from by decide +kernel) (by decide), ?_⟩
  refine List.forall_mem_cons.mpr ⟨fun _ _ _ _ _ _ _ _ _ _ _ _ _ _ _ _ _ _ X => so_iconst (n := 0) X (show decode code 225 = .ok (.iconst 0, 1) from by decide +kernel), ?_⟩
  refine List.forall_mem_cons.mpr ⟨fun _ _ _ _ _ _ _ _ _ _ _ _ _ _ _ _ _ _ X => so_zret X rfl (show decode code 226 = .ok (.ireturn, 1) from by decide +kernel), ?_⟩
  refine List.forall_mem_cons.mpr ⟨fun _ _ _ _ _ _ _ _ _ _ _ _ _ _ _ _ _ _ X => so_goto (off := 771) (tgt := 998) X (show decode code 227 = .ok (.goto 771, 3) from by decide +kernel) (by decide), ?_⟩
  refine List.forall_mem_cons.mpr ⟨fun _ _ _ _ _ _ _ _ _ _ _ _ _ _ _ _ _ _ X => so_aload_n (k := 1) X (show decode code 230 = .ok (.aload_n 1, 1) from by decide +kernel), ?_⟩
  refine List.forall_mem_cons.mpr ⟨fun _ _ _ _ _ _ _ _ _ _ _ _ _ _ _ _ _ _ X => so_aload_n (k := 3) X (show decode code 231 = .ok (.aload_n 3, 1) from by decide +kernel), ?_⟩
  refine List.forall_mem_cons.mpr ⟨fun _ _ _ _ _ _ _ _ _ _ _ _ _ _ _ _ _ _ X => so_callSW (i := 129) (n := 2) X rfl wq_420 wq_421 wq_32 wd_129 wc_129 (show decode code 232 = .ok (.invokestatic 80, 3) from by decide +kernel), ?_⟩
  refine List.forall_mem_cons.mpr ⟨fun _ _ _ _ _ _ _ _ _ _ _ _ _ _ _ _ _ _ X => so_istore (k := 5) X (show decode code 235 = .ok (.istore 5, 2) from by decide +kernel), ?_⟩
  refine List.forall_mem_cons.mpr ⟨fun _ _ _ _ _ _ _ _ _ _ _ _ _ _ _ _ _ _ X => so_aload_n (k := 2) X (show decode code 237 = .ok (.aload_n 2, 1) from by decide +kernel), ?_⟩
  refine List.forall_mem_cons.mpr ⟨fun _ _ _ _ _ _ _ _ _ _ _ _ _ _ _ _ _ _ X => so_callV (i := 100) (cn := 9) (n := 0) X rfl rfl rfl wq_831 wq_832 wq_833 wq_43 wd_100 wc_100 (show decode code 238 = .ok (.invokevirtual 83, 3) from by decide +kernel), ?_⟩
  refine List.forall_mem_cons.mpr ⟨fun _ _ _ _ _ _ _ _ _ _ _ _ _ _ _ _ _ _ X => so_istore (k := 6) X (show decode code 241 = .ok (.istore 6, 2) from by decide +kernel), ?_⟩
  refine List.forall_mem_cons.mpr ⟨fun _ _ _ _ _ _ _ _ _ _ _ _ _ _ _ _ _ _ X => so_aload_n (k := 2) X (show decode code 243 = .ok (.aload_n 2, 1) from by decide +kernel), ?_⟩
  refine List.forall_mem_cons.mpr ⟨fun _ _ _ _ _ _ _ _ _ _ _ _ _ _ _ _ _ _ X => so_callV (i := 92) (cn := 9) (n := 0) X rfl rfl rfl wq_805 wq_806 wq_807 wq_43 wd_92 wc_92 (show decode code 244 = .ok (.invokevirtual 73, 3) from by decide +kernel), ?_⟩
  refine List.forall_mem_cons.mpr ⟨fun _ _ _ _ _ _ _ _ _ _ _ _ _ _ _ _ _ _ X => so_iload (k := 5) X (show decode code 247 = .ok (.iload 5, 2) from by decide +kernel), ?_⟩
  refine List.forall_mem_cons.mpr ⟨fun _ _ _ _ _ _ _ _ _ _ _ _ _ _ _ _ _ _ X => so_icmp_eq (off := 5) (tgt := 254) X (show decode code 249 = .ok (.if_icmp .eq 5, 3) from by decide +kernel) (by decide), ?_⟩
  refine List.forall_mem_cons.mpr ⟨fun _ _ _ _ _ _ _ _ _ _ _ _ _ _ _ _ _ _ X => so_iconst (n := 0) X (show decode code 252 = .ok (.iconst 0, 1) from by decide +kernel), ?_⟩
  refine List.forall_mem_cons.mpr ⟨fun _ _ _ _ _ _ _ _ _ _ _ _ _ _ _ _ _ _ X => so_zret X rfl (show decode code 253 = .ok (.ireturn, 1) from by decide +kernel), ?_⟩
  refine List.forall_mem_cons.mpr ⟨fun _ _ _ _ _ _ _ _ _ _ _ _ _ _ _ _ _ _ X => so_iload (k := 5) X (show decode code 254 = .ok (.iload 5, 2) from by decide +kernel), ?_⟩
  refine List.forall_mem_cons.mpr ⟨fun _ _ _ _ _ _ _ _ _ _ _ _ _ _ _ _ _ _ X => so_if_ne (off := 15) (tgt := 271) X (show decode code 256 = .ok (.ifCond .ne 15, 3) from by decide +kernel) (by decide), ?_⟩
  refine List.forall_mem_cons.mpr ⟨fun _ _ _ _ _ _ _ _ _ _ _ _ _ _ _ _ _ _ X => so_aload_n (k := 3) X (show decode code 259 = .ok (.aload_n 3, 1) from by decide +kernel), ?_⟩
  refine List.forall_mem_cons.mpr ⟨fun _ _ _ _ _ _ _ _ _ _ _ _ _ _ _ _ _ _ X => so_iconst (n := 0) X (show decode code 260 = .ok (.iconst 0, 1) from by decide +kernel), ?_⟩
  refine List.forall_mem_cons.mpr ⟨fun _ _ _ _ _ _ _ _ _ _ _ _ _ _ _ _ _ _ X => so_lald X (show decode code 261 = .ok (.laload, 1) from by decide +kernel), ?_⟩
  refine List.forall_mem_cons.mpr ⟨fun _ _ _ _ _ _ _ _ _ _ _ _ _ _ _ _ _ _ X => so_iload (k := 6) X (show decode code 262 = .ok (.iload 6, 2) from by decide +kernel), ?_⟩
  refine List.forall_mem_cons.mpr ⟨fun _ _ _ _ _ _ _ _ _ _ _ _ _ _ _ _ _ _ X => so_i2l X (show decode code 264 = .ok (.i2l, 1) from by decide +kernel), ?_⟩
  refine List.forall_mem_cons.mpr ⟨fun _ _ _ _ _ _ _ _ _ _ _ _ _ _ _ _ _ _ X => so_lcmp X (show decode code 265 = .ok (.lcmp, 1) from by decide +kernel), ?_⟩
  refine List.forall_mem_cons.mpr ⟨fun _ _ _ _ _ _ _ _ _ _ _ _ _ _ _ _ _ _ X => so_if_eq (off := 5) (tgt := 271) X (show decode code 266 = .ok (.ifCond .eq 5, 3) from by decide +kernel) (by decide), ?_⟩
  refine List.forall_mem_cons.mpr ⟨fun _ _ _ _ _ _ _ _ _ _ _ _ _ _ _ _ _ _ X => so_iconst (n := 0) X (show decode code 269 = .ok (.iconst 0, 1) from by decide +kernel), ?_⟩
  refine List.forall_mem_cons.mpr ⟨fun _ _ _ _ _ _ _ _ _ _ _ _ _ _ _ _ _ _ X => so_zret X rfl (show decode code 270 = .ok (.ireturn, 1) from by decide +kernel), ?_⟩
  refine List.forall_mem_cons.mpr ⟨fun _ _ _ _ _ _ _ _ _ _ _ _ _ _ _ _ _ _ X => so_goto (off := 727) (tgt := 998) X (show decode code 271 = .ok (.goto 727, 3) from by decide +kernel) (by decide), ?_⟩
  refine List.forall_mem_cons.mpr ⟨fun _ _ _ _ _ _ _ _ _ _ _ _ _ _ _ _ _ _ X => so_aload_n (k := 1) X (show decode code 274 = .ok (.aload_n 1, 1) from by decide +kernel), ?_⟩
  refine List.forall_mem_cons.mpr ⟨fun _ _ _ _ _ _ _ _ _ _ _ _ _ _ _ _ _ _ X => so_aload_n (k := 0) X (show decode code 275 = .ok (.aload_n 0, 1) from by decide +kernel), ?_⟩
  refine List.forall_mem_cons.mpr ⟨fun _ _ _ _ _ _ _ _ _ _ _ _ _ _ _ _ _ _ X => so_iload (k := 4) X (show decode code 276 = .ok (.iload 4, 2) from by decide +kernel), ?_⟩
  refine List.forall_mem_cons.mpr ⟨fun _ _ _ _ _ _ _ _ _ _ _ _ _ _ _ _ _ _ X => so_iconst (n := 1) X (show decode code 278 = .ok (.iconst 1, 1) from by decide +kernel), ?_⟩
  refine List.forall_mem_cons.mpr ⟨fun _ _ _ _ _ _ _ _ _ _ _ _ _ _ _ _ _ _ X => so_iadd X (show decode code 279 = .ok (.iadd, 1) from by decide +kernel), ?_⟩
  refine List.forall_mem_cons.mpr ⟨fun _ _ _ _ _ _ _ _ _ _ _ _ _ _ _ _ _ _ X => so_sld X hL (show decode code 280 = .ok (.iaload, 1) from by decide +kernel), ?_⟩
  refine List.forall_mem_cons.mpr ⟨fun _ _ _ _ _ _ _ _ _ _ _ _ _ _ _ _ _ _ X => so_aload_n (k := 0) X (show decode code 281 = .ok (.aload_n 0, 1) from by decide +kernel), ?_⟩
  refine List.forall_mem_cons.mpr ⟨fun _ _ _ _ _ _ _ _ _ _ _ _ _ _ _ _ _ _ X => so_iload (k := 4) X (show decode code 282 = .ok (.iload 4, 2) from by decide +kernel), ?_⟩
  refine List.forall_mem_cons.mpr ⟨fun _ _ _ _ _ _ _ _ _ _ _ _ _ _ _ _ _ _ X => so_iconst (n := 2) X (show decode code 284 = .ok (.iconst 2, 1) from by decide +kernel), ?_⟩
  refine List.forall_mem_cons.mpr ⟨fun _ _ _ _ _ _ _ _ _ _ _ _ _ _ _ _ _ _ X => so_iadd X (show decode code 285 = .ok (.iadd, 1) from by decide +kernel), ?_⟩
  refine List.forall_mem_cons.mpr ⟨fun _ _ _ _ _ _ _ _ _ _ _ _ _ _ _ _ _ _ X => so_sld X hL (show decode code 286 = .ok (.iaload, 1) from by decide +kernel), ?_⟩
  refine List.forall_mem_cons.mpr ⟨fun _ _ _ _ _ _ _ _ _ _ _ _ _ _ _ _ _ _ X => so_if_eq (off := 7) (tgt := 294) X (show decode code 287 = .ok (.ifCond .eq 7, 3) from by decide +kernel) (by decide), ?_⟩
  refine List.forall_mem_cons.mpr ⟨fun _ _ _ _ _ _ _ _ _ _ _ _ _ _ _ _ _ _ X => so_iconst (n := 1) X (show decode code 290 = .ok (.iconst 1, 1) from by decide +kernel), ?_⟩
  refine List.forall_mem_cons.mpr ⟨fun _ _ _ _ _ _ _ _ _ _ _ _ _ _ _ _ _ _ X => so_goto (off := 4) (tgt := 295) X (show decode code 291 = .ok (.goto 4, 3) from by decide +kernel) (by decide), ?_⟩
  refine List.forall_mem_cons.mpr ⟨fun _ _ _ _ _ _ _ _ _ _ _ _ _ _ _ _ _ _ X => so_iconst (n := 0) X (show decode code 294 = .ok (.iconst 0, 1) from by decide +kernel), ?_⟩
  refine List.forall_mem_cons.mpr ⟨fun _ _ _ _ _ _ _ _ _ _ _ _ _ _ _ _ _ _ X => so_aload_n (k := 3) X (show decode code 295 = .ok (.aload_n 3, 1) from by decide +kernel), ?_⟩
  refine List.forall_mem_cons.mpr ⟨fun _ _ _ _ _ _ _ _ _ _ _ _ _ _ _ _ _ _ X => so_callSW (i := 130) (n := 4) X rfl wq_449 wq_450 wq_32 wd_130 wc_130 (show decode code 296 = .ok (.invokestatic 84, 3) from by decide +kernel), ?_⟩
  refine List.forall_mem_cons.mpr ⟨fun _ _ _ _ _ _ _ _ _ _ _ _ _ _ _ _ _ _ X => so_istore (k := 5) X (show decode code 299 = .ok (.istore 5, 2) from by decide +kernel), ?_⟩
  refine List.forall_mem_cons.mpr ⟨fun _ _ _ _ _ _ _ _ _ _ _ _ _ _ _ _ _ _ X => so_aload_n (k := 2) X (show decode code 301 = .ok (.aload_n 2, 1) from by decide +kernel), ?_⟩
  refine List.forall_mem_cons.mpr ⟨fun _ _ _ _ _ _ _ _ _ _ _ _ _ _ _ _ _ _ X => so_aload_n (k := 0) X (show decode code 302 = .ok (.aload_n 0, 1) from by decide +kernel), ?_⟩
  refine List.forall_mem_cons.mpr ⟨fun _ _ _ _ _ _ _ _ _ _ _ _ _ _ _ _ _ _ X => so_iload (k := 4) X (show decode code 303 = .ok (.iload 4, 2) from by decide +kernel), ?_⟩
  refine List.forall_mem_cons.mpr ⟨fun _ _ _ _ _ _ _ _ _ _ _ _ _ _ _ _ _ _ X => so_iconst (n := 1) X (show decode code 305 = .ok (.iconst 1, 1) from by decide +kernel), ?_⟩
  refine List.forall_mem_cons.mpr ⟨fun _ _ _ _ _ _ _ _ _ _ _ _ _ _ _ _ _ _ X => so_iadd X (show decode code 306 = .ok (.iadd, 1) from by decide +kernel), ?_⟩
  refine List.forall_mem_cons.mpr ⟨fun _ _ _ _ _ _ _ _ _ _ _ _ _ _ _ _ _ _ X => so_sld X hL (show decode code 307 = .ok (.iaload, 1) from by decide +kernel), ?_⟩
  refine List.forall_mem_cons.mpr ⟨fun _ _ _ _ _ _ _ _ _ _ _ _ _ _ _ _ _ _ X => so_aload_n (k := 0) X (show decode code 308 = .ok (.aload_n 0, 1) from by decide +kernel), ?_⟩
  refine List.forall_mem_cons.mpr ⟨fun _ _ _ _ _ _ _ _ _ _ _ _ _ _ _ _ _ _ X => so_iload (k := 4) X (show decode code 309 = .ok (.iload 4, 2) from by decide +kernel), ?_⟩
  refine List.forall_mem_cons.mpr ⟨fun _ _ _ _ _ _ _ _ _ _ _ _ _ _ _ _ _ _ X => so_iconst (n := 2) X (show decode code 311 = .ok (.iconst 2, 1) from by decide +kernel), ?_⟩
  refine List.forall_mem_cons.mpr ⟨fun _ _ _ _ _ _ _ _ _ _ _ _ _ _ _ _ _ _ X => so_iadd X (show decode code 312 = .ok (.iadd, 1) from by decide +kernel), ?_⟩
  refine List.forall_mem_cons.mpr ⟨fun _ _ _ _ _ _ _ _ _ _ _ _ _ _ _ _ _ _ X => so_sld X hL (show decode code 313 = .ok (.iaload, 1) from by decide +kernel), ?_⟩
  refine List.forall_mem_cons.mpr ⟨fun _ _ _ _ _ _ _ _ _ _ _ _ _ _ _ _ _ _ X => so_if_eq (off := 7) (tgt := 321) X (show decode code 314 = .ok (.ifCond .eq 7, 3) from by decide +kernel) (by decide), ?_⟩
  refine List.forall_mem_cons.mpr ⟨fun _ _ _ _ _ _ _ _ _ _ _ _ _ _ _ _ _ _ X => so_iconst (n := 1) X (show decode code 317 = .ok (.iconst 1, 1) from by decide +kernel), ?_⟩
  refine List.forall_mem_cons.mpr ⟨fun _ _ _ _ _ _ _ _ _ _ _ _ _ _ _ _ _ _ X => so_goto (off := 4) (tgt := 322) X (show decode code 318 = .ok (.goto 4, 3) from by decide +kernel) (by decide), ?_⟩
  refine List.forall_mem_cons.mpr ⟨fun _ _ _ _ _ _ _ _ _ _ _ _ _ _ _ _ _ _ X => so_iconst (n := 0) X (show decode code 321 = .ok (.iconst 0, 1) from by decide +kernel), ?_⟩
  refine List.forall_mem_cons.mpr ⟨fun _ _ _ _ _ _ _ _ _ _ _ _ _ _ _ _ _ _ X => so_callV (i := 101) (cn := 9) (n := 2) X rfl rfl rfl wq_835 wq_836 wq_837 wq_43 wd_101 wc_101 (show decode code 322 = .ok (.invokevirtual 87, 3) from by decide +kernel), ?_⟩
  refine List.forall_mem_cons.mpr ⟨fun _ _ _ _ _ _ _ _ _ _ _ _ _ _ _ _ _ _ X => so_istore (k := 6) X (show decode code 325 = .ok (.istore 6, 2) from by decide +kernel), ?_⟩
  refine List.forall_mem_cons.mpr ⟨fun _ _ _ _ _ _ _ _ _ _ _ _ _ _ _ _ _ _ X => so_aload_n (k := 2) X (show decode code 327 = .ok (.aload_n 2, 1) from by decide +kernel), ?_⟩
  refine List.forall_mem_cons.mpr ⟨fun _ _ _ _ _ _ _ _ _ _ _ _ _ _ _ _ _ _ X => so_callV (i := 92) (cn := 9) (n := 0) X rfl rfl rfl wq_805 wq_806 wq_807 wq_43 wd_92 wc_92 (show decode code 328 = .ok (.invokevirtual 73, 3) from by decide +kernel), ?_⟩
  refine List.forall_mem_cons.mpr ⟨fun _ _ _ _ _ _ _ _ _ _ _ _ _ _ _ _ _ _ X => so_iload (k := 5) X (show decode code 331 = .ok (.iload 5, 2) from by decide +kernel), ?_⟩
  refine List.forall_mem_cons.mpr ⟨fun _ _ _ _ _ _ _ _ _ _ _ _ _ _ _ _ _ _ X => so_icmp_eq (off := 5) (tgt := 338) X (show decode code 333 = .ok (.if_icmp .eq 5, 3) from by decide +kernel) (by decide), ?_⟩
  refine List.forall_mem_cons.mpr ⟨fun _ _ _ _ _ _ _ _ _ _ _ _ _ _ _ _ _ _ X => so_iconst (n := 0) X (show decode code 336 = .ok (.iconst 0, 1) from by decide +kernel), ?_⟩
  refine List.forall_mem_cons.mpr ⟨fun _ _ _ _ _ _ _ _ _ _ _ _ _ _ _ _ _ _ X => so_zret X rfl (show decode code 337 = .ok (.ireturn, 1) from by decide +kernel), ?_⟩
  refine List.forall_mem_cons.mpr ⟨fun _ _ _ _ _ _ _ _ _ _ _ _ _ _ _ _ _ _ X => so_iload (k := 5) X (show decode code 338 = .ok (.iload 5, 2) from by decide +kernel), ?_⟩
  refine List.forall_mem_cons.mpr ⟨fun _ _ _ _ _ _ _ _ _ _ _ _ _ _ _ _ _ _ X => so_if_ne (off := 22) (tgt := 362) X (show decode code 340 = .ok (.ifCond .ne 22, 3) from by decide +kernel) (by decide), ?_⟩
  refine List.forall_mem_cons.mpr ⟨fun _ _ _ _ _ _ _ _ _ _ _ _ _ _ _ _ _ _ X => so_aload_n (k := 3) X (show decode code 343 = .ok (.aload_n 3, 1) from by decide +kernel), ?_⟩
  refine List.forall_mem_cons.mpr ⟨fun _ _ _ _ _ _ _ _ _ _ _ _ _ _ _ _ _ _ X => so_iconst (n := 0) X (show decode code 344 = .ok (.iconst 0, 1) from by decide +kernel), ?_⟩
  refine List.forall_mem_cons.mpr ⟨fun _ _ _ _ _ _ _ _ _ _ _ _ _ _ _ _ _ _ X => so_lald X (show decode code 345 = .ok (.laload, 1) from by decide +kernel), ?_⟩
  refine List.forall_mem_cons.mpr ⟨fun _ _ _ _ _ _ _ _ _ _ _ _ _ _ _ _ _ _ X => so_iload (k := 6) X (show decode code 346 = .ok (.iload 6, 2) from by decide +kernel), ?_⟩
  refine List.forall_mem_cons.mpr ⟨fun _ _ _ _ _ _ _ _ _ _ _ _ _ _ _ _ _ _ X => so_if_eq (off := 7) (tgt := 355) X (show decode code 348 = .ok (.ifCond .eq 7, 3) from by decide +kernel) (by decide), ?_⟩
  refine List.forall_mem_cons.mpr ⟨fun _ _ _ _ _ _ _ _ _ _ _ _ _ _ _ _ _ _ X => so_lconst (n := 1) X (show decode code 351 = .ok (.lconst 1, 1) from by decide +kernel), ?_⟩
  refine List.forall_mem_cons.mpr ⟨fun _ _ _ _ _ _ _ _ _ _ _ _ _ _ _ _ _ _ X => so_goto (off := 4) (tgt := 356) X (show decode code 352 = .ok (.goto 4, 3) from by decide +kernel) (by decide), ?_⟩
  refine List.forall_mem_cons.mpr ⟨fun _ _ _ _ _ _ _ _ _ _ _ _ _ _ _ _ _ _ X => so_lconst (n := 0) X (show decode code 355 = .ok (.lconst 0, 1) from by decide +kernel), ?_⟩
  refine List.forall_mem_cons.mpr ⟨fun _ _ _ _ _ _ _ _ _ _ _ _ _ _ _ _ _ _ X => so_lcmp X (show decode code 356 = .ok (.lcmp, 1) from by decide +kernel), ?_⟩
  refine List.forall_mem_cons.mpr ⟨fun _ _ _ _ _ _ _ _ _ _ _ _ _ _ _ _ _ _ X => so_if_eq (off := 5) (tgt := 362) X (show decode code 357 = .ok (.ifCond .eq 5, 3) from by decide +kernel) (by decide), ?_⟩
  refine List.forall_mem_cons.mpr ⟨fun _ _ _ _ _ _ _ _ _ _ _ _ _ _ _ _ _ _ X => so_iconst (n := 0) X (show decode code 360 = .ok (.iconst 0, 1) from by decide +kernel), ?_⟩
  refine List.forall_mem_cons.mpr ⟨fun _ _ _ _ _ _ _ _ _ _ _ _ _ _ _ _ _ _ X => so_zret X rfl (show decode code 361 = .ok (.ireturn, 1) from by decide +kernel), ?_⟩
  refine List.forall_mem_cons.mpr ⟨fun _ _ _ _ _ _ _ _ _ _ _ _ _ _ _ _ _ _ X => so_goto (off := 636) (tgt := 998) X (show decode code 362 = .ok (.goto 636, 3) from by decide +kernel) (by decide), ?_⟩
  refine List.forall_mem_cons.mpr ⟨fun _ _ _ _ _ _ _ _ _ _ _ _ _ _ _ _ _ _ X => so_aload_n (k := 1) X (show decode code 365 = .ok (.aload_n 1, 1) from by decide +kernel), ?_⟩
  refine List.forall_mem_cons.mpr ⟨fun _ _ _ _ _ _ _ _ _ _ _ _ _ _ _ _ _ _ X => so_aload_n (k := 3) X (show decode code 366 = .ok (.aload_n 3, 1) from by decide +kernel), ?_⟩
  refine List.forall_mem_cons.mpr ⟨fun _ _ _ _ _ _ _ _ _ _ _ _ _ _ _ _ _ _ X => so_callSW (i := 131) (n := 2) X rfl wq_462 wq_463 wq_32 wd_131 wc_131 (show decode code 367 = .ok (.invokestatic 88, 3) from by decide +kernel), ?_⟩
  refine List.forall_mem_cons.mpr ⟨fun _ _ _ _ _ _ _ _ _ _ _ _ _ _ _ _ _ _ X => so_istore (k := 5) X (show decode code 370 = .ok (.istore 5, 2) from by decide +kernel), ?_⟩
  refine List.forall_mem_cons.mpr ⟨fun _ _ _ _ _ _ _ _ _ _ _ _ _ _ _ _ _ _ X => so_aload_n (k := 2) X (show decode code 372 = .ok (.aload_n 2, 1) from by decide +kernel), ?_⟩
  refine List.forall_mem_cons.mpr ⟨fun _ _ _ _ _ _ _ _ _ _ _ _ _ _ _ _ _ _ X => so_callV (i := 102) (cn := 9) (n := 0) X rfl rfl rfl wq_839 wq_840 wq_841 wq_43 wd_102 wc_102 (show decode code 373 = .ok (.invokevirtual 90, 3) from by decide +kernel), ?_⟩
  refine List.forall_mem_cons.mpr ⟨fun _ _ _ _ _ _ _ _ _ _ _ _ _ _ _ _ _ _ X => so_istore (k := 6) X (show decode code 376 = .ok (.istore 6, 2) from by decide +kernel), ?_⟩
  refine List.forall_mem_cons.mpr ⟨fun _ _ _ _ _ _ _ _ _ _ _ _ _ _ _ _ _ _ X => so_aload_n (k := 2) X (show decode code 378 = .ok (.aload_n 2, 1) from by decide +kernel), ?_⟩
  refine List.forall_mem_cons.mpr ⟨fun _ _ _ _ _ _ _ _ _ _ _ _ _ _ _ _ _ _ X => so_callV (i := 92) (cn := 9) (n := 0) X rfl rfl rfl wq_805 wq_806 wq_807 wq_43 wd_92 wc_92 (show decode code 379 = .ok (.invokevirtual 73, 3) from by decide +kernel), ?_⟩
  refine List.forall_mem_cons.mpr ⟨fun _ _ _ _ _ _ _ _ _ _ _ _ _ _ _ _ _ _ X => so_iload (k := 5) X (show decode code 382 = .ok (.iload 5, 2) from by decide +kernel), ?_⟩
  refine List.forall_mem_cons.mpr ⟨fun _ _ _ _ _ _ _ _ _ _ _ _ _ _ _ _ _ _ X => so_icmp_eq (off := 5) (tgt := 389) X (show decode code 384 = .ok (.if_icmp .eq 5, 3) from by decide +kernel) (by decide), ?_⟩
  refine List.forall_mem_cons.mpr ⟨fun _ _ _ _ _ _ _ _ _ _ _ _ _ _ _ _ _ _ X => so_iconst (n := 0) X (show decode code 387 = .ok (.iconst 0, 1) from by decide +kernel), ?_⟩
  refine List.forall_mem_cons.mpr ⟨fun _ _ _ _ _ _ _ _ _ _ _ _ _ _ _ _ _ _ X => so_zret X rfl (show decode code 388 = .ok (.ireturn, 1) from by decide +kernel), ?_⟩
  refine List.forall_mem_cons.mpr ⟨fun _ _ _ _ _ _ _ _ _ _ _ _ _ _ _ _ _ _ X => so_iload (k := 5) X (show decode code 389 = .ok (.iload 5, 2) from by decide +kernel), ?_⟩
  refine List.forall_mem_cons.mpr ⟨fun _ _ _ _ _ _ _ _ _ _ _ _ _ _ _ _ _ _ X => so_if_ne (off := 15) (tgt := 406) X (show decode code 391 = .ok (.ifCond .ne 15, 3) from by decide +kernel) (by decide), ?_⟩
  refine List.forall_mem_cons.mpr ⟨fun _ _ _ _ _ _ _ _ _ _ _ _ _ _ _ _ _ _ X => so_aload_n (k := 3) X (show decode code 394 = .ok (.aload_n 3, 1) from by decide +kernel), ?_⟩
  refine List.forall_mem_cons.mpr ⟨fun _ _ _ _ _ _ _ _ _ _ _ _ _ _ _ _ _ _ X => so_iconst (n := 0) X (show decode code 395 = .ok (.iconst 0, 1) from by decide +kernel), ?_⟩
  refine List.forall_mem_cons.mpr ⟨fun _ _ _ _ _ _ _ _ _ _ _ _ _ _ _ _ _ _ X => so_lald X (show decode code 396 = .ok (.laload, 1) from by decide +kernel), ?_⟩
  refine List.forall_mem_cons.mpr ⟨fun _ _ _ _ _ _ _ _ _ _ _ _ _ _ _ _ _ _ X => so_iload (k := 6) X (show decode code 397 = .ok (.iload 6, 2) from by decide +kernel), ?_⟩
  refine List.forall_mem_cons.mpr ⟨fun _ _ _ _ _ _ _ _ _ _ _ _ _ _ _ _ _ _ X => so_i2l X (show decode code 399 = .ok (.i2l, 1) from by decide +kernel), ?_⟩
  refine List.forall_mem_cons.mpr ⟨fun _ _ _ _ _ _ _ _ _ _ _ _ _ _ _ _ _ _ X => so_lcmp X (show decode code 400 = .ok (.lcmp, 1) from by decide +kernel), ?_⟩
  refine List.forall_mem_cons.mpr ⟨fun _ _ _ _ _ _ _ _ _ _ _ _ _ _ _ _ _ _ X => so_if_eq (off := 5) (tgt := 406) X (show decode code 401 = .ok (.ifCond .eq 5, 3) from by decide +kernel) (by decide), ?_⟩
  refine List.forall_mem_cons.mpr ⟨fun _ _ _ _ _ _ _ _ _ _ _ _ _ _ _ _ _ _ X => so_iconst (n := 0) X (show decode code 404 = .ok (.iconst 0, 1) from by decide +kernel), ?_⟩
  refine List.forall_mem_cons.mpr ⟨fun _ _ _ _ _ _ _ _ _ _ _ _ _ _ _ _ _ _ X => so_zret X rfl (show decode code 405 = .ok (.ireturn, 1) from by decide +kernel), ?_⟩
  refine List.forall_mem_cons.mpr ⟨fun _ _ _ _ _ _ _ _ _ _ _ _ _ _ _ _ _ _ X => so_goto (off := 592) (tgt := 998) X (show decode code 406 = .ok (.goto 592, 3) from by decide +kernel) (by decide), ?_⟩
  refine List.forall_mem_cons.mpr ⟨fun _ _ _ _ _ _ _ _ _ _ _ _ _ _ _ _ _ _ X => so_aload_n (k := 1) X (show decode code 409 = .ok (.aload_n 1, 1) from by decide +kernel), ?_⟩
  refine List.forall_mem_cons.mpr ⟨fun _ _ _ _ _ _ _ _ _ _ _ _ _ _ _ _ _ _ X => so_callV (i := 67) (cn := 8) (n := 0) X rfl rfl rfl wq_247 wq_248 wq_249 wq_33 wd_67 wc_67 (show decode code 410 = .ok (.invokevirtual 91, 3) from by decide +kernel), ?_⟩
  refine List.forall_mem_cons.mpr ⟨fun _ _ _ _ _ _ _ _ _ _ _ _ _ _ _ _ _ _ X => so_aload_n (k := 2) X (show decode code 413 = .ok (.aload_n 2, 1) from by decide +kernel), ?_⟩
  refine List.forall_mem_cons.mpr ⟨fun _ _ _ _ _ _ _ _ _ _ _ _ _ _ _ _ _ _ X => so_callV (i := 103) (cn := 9) (n := 0) X rfl rfl rfl wq_843 wq_844 wq_845 wq_43 wd_103 wc_103 (show decode code 414 = .ok (.invokevirtual 94, 3) from by decide +kernel), ?_⟩
  refine List.forall_mem_cons.mpr ⟨fun _ _ _ _ _ _ _ _ _ _ _ _ _ _ _ _ _ _ X => so_icmp_eq (off := 581) (tgt := 998) X (show decode code 417 = .ok (.if_icmp .eq 581, 3) from by decide +kernel) (by decide), ?_⟩
  refine List.forall_mem_cons.mpr ⟨fun _ _ _ _ _ _ _ _ _ _ _ _ _ _ _ _ _ _ X => so_iconst (n := 0) X (show decode code 420 = .ok (.iconst 0, 1) from by decide +kernel), ?_⟩
  refine List.forall_mem_cons.mpr ⟨fun _ _ _ _ _ _ _ _ _ _ _ _ _ _ _ _ _ _ X => so_zret X rfl (show decode code 421 = .ok (.ireturn, 1) from by decide +kernel), ?_⟩
  refine List.forall_mem_cons.mpr ⟨fun _ _ _ _ _ _ _ _ _ _ _ _ _ _ _ _ _ _ X => so_aload_n (k := 1) X (show decode code 422 = .ok (.aload_n 1, 1) from by decide +kernel), ?_⟩
  refine List.forall_mem_cons.mpr ⟨fun _ _ _ _ _ _ _ _ _ _ _ _ _ _ _ _ _ _ X => so_aload_n (k := 0) X (show decode code 423 = .ok (.aload_n 0, 1) from by decide +kernel), ?_⟩
  refine List.forall_mem_cons.mpr ⟨fun _ _ _ _ _ _ _ _ _ _ _ _ _ _ _ _ _ _ X => so_iload (k := 4) X (show decode code 424 = .ok (.iload 4, 2) from by decide +kernel), ?_⟩
  refine List.forall_mem_cons.mpr ⟨fun _ _ _ _ _ _ _ _ _ _ _ _ _ _ _ _ _ _ X => so_iconst (n := 1) X (show decode code 426 = .ok (.iconst 1, 1) from by decide +kernel), ?_⟩
  refine List.forall_mem_cons.mpr ⟨fun _ _ _ _ _ _ _ _ _ _ _ _ _ _ _ _ _ _ X => so_iadd X (show decode code 427 = .ok (.iadd, 1) from by decide +kernel), ?_⟩
  refine List.forall_mem_cons.mpr ⟨fun _ _ _ _ _ _ _ _ _ _ _ _ _ _ _ _ _ _ X => so_sld X hL (show decode code 428 = .ok (.iaload, 1) from by decide +kernel), ?_⟩
  refine List.forall_mem_cons.mpr ⟨fun _ _ _ _ _ _ _ _ _ _ _ _ _ _ _ _ _ _ X => so_aload_n (k := 0) X (show decode code 429 = .ok (.aload_n 0, 1) from by decide +kernel), ?_⟩
  refine List.forall_mem_cons.mpr ⟨fun _ _ _ _ _ _ _ _ _ _ _ _ _ _ _ _ _ _ X => so_iload (k := 4) X (show decode code 430 = .ok (.iload 4, 2) from by decide +kernel), ?_⟩
  refine List.forall_mem_cons.mpr ⟨fun _ _ _ _ _ _ _ _ _ _ _ _ _ _ _ _ _ _ X => so_iconst (n := 2) X (show decode code 432 = .ok (.iconst 2, 1) from by decide +kernel), ?_⟩
  refine List.forall_mem_cons.mpr ⟨fun _ _ _ _ _ _ _ _ _ _ _ _ _ _ _ _ _ _ X => so_iadd X (show decode code 433 = .ok (.iadd, 1) from by decide +kernel), ?_⟩
  refine List.forall_mem_cons.mpr ⟨fun _ _ _ _ _ _ _ _ _ _ _ _ _ _ _ _ _ _ X => so_sld X hL (show decode code 434 = .ok (.iaload, 1) from by decide +kernel), ?_⟩
  refine List.forall_mem_cons.mpr ⟨fun _ _ _ _ _ _ _ _ _ _ _ _ _ _ _ _ _ _ X => so_aload_n (k := 3) X (show decode code 435 = .ok (.aload_n 3, 1) from by decide +kernel), ?_⟩
  refine List.forall_mem_cons.mpr ⟨fun _ _ _ _ _ _ _ _ _ _ _ _ _ _ _ _ _ _ X => so_callSW (i := 132) (n := 4) X rfl wq_478 wq_479 wq_32 wd_132 wc_132 (show decode code 436 = .ok (.invokestatic 95, 3) from by decide +kernel), ?_⟩
  refine List.forall_mem_cons.mpr ⟨fun _ _ _ _ _ _ _ _ _ _ _ _ _ _ _ _ _ _ X => so_istore (k := 5) X (show decode code 439 = .ok (.istore 5, 2) from by decide +kernel), ?_⟩
  refine List.forall_mem_cons.mpr ⟨fun _ _ _ _ _ _ _ _ _ _ _ _ _ _ _ _ _ _ X => so_aload_n (k := 2) X (show decode code 441 = .ok (.aload_n 2, 1) from by decide +kernel), ?_⟩
  refine List.forall_mem_cons.mpr ⟨fun _ _ _ _ _ _ _ _ _ _ _ _ _ _ _ _ _ _ X => so_aload_n (k := 0) X (show decode code 442 = .ok (.aload_n 0, 1) from by decide +kernel), ?_⟩
  refine List.forall_mem_cons.mpr ⟨fun _ _ _ _ _ _ _ _ _ _ _ _ _ _ _ _ _ _ X => so_iload (k := 4) X (show decode code 443 = .ok (.iload 4, 2) from by decide +kernel), ?_⟩
  refine List.forall_mem_cons.mpr ⟨fun _ _ _ _ _ _ _ _ _ _ _ _ _ _ _ _ _ _ X => so_iconst (n := 1) X (show decode code 445 = .ok (.iconst 1, 1) from by decide +kernel), ?_⟩
  refine List.forall_mem_cons.mpr ⟨fun _ _ _ _ _ _ _ _ _ _ _ _ _ _ _ _ _ _ X => so_iadd X (show decode code 446 = .ok (.iadd, 1) from by decide +kernel), ?_⟩
  refine List.forall_mem_cons.mpr ⟨fun _ _ _ _ _ _ _ _ _ _ _ _ _ _ _ _ _ _ X => so_sld X hL (show decode code 447 = .ok (.iaload, 1) from by decide +kernel), ?_⟩
  refine List.forall_mem_cons.mpr ⟨fun _ _ _ _ _ _ _ _ _ _ _ _ _ _ _ _ _ _ X => so_aload_n (k := 0) X (show decode code 448 = .ok (.aload_n 0, 1) from by decide +kernel), ?_⟩
  refine List.forall_mem_cons.mpr ⟨fun _ _ _ _ _ _ _ _ _ _ _ _ _ _ _ _ _ _ X => so_iload (k := 4) X (show decode code 449 = .ok (.iload 4, 2) from by decide +kernel), ?_⟩
  refine List.forall_mem_cons.mpr ⟨fun _ _ _ _ _ _ _ _ _ _ _ _ _ _ _ _ _ _ X => so_iconst (n := 2) X (show decode code 451 = .ok (.iconst 2, 1) from by decide +kernel), ?_⟩
  refine List.forall_mem_cons.mpr ⟨fun _ _ _ _ _ _ _ _ _ _ _ _ _ _ _ _ _ _ X => so_iadd X (show decode code 452 = .ok (.iadd, 1) from by decide +kernel), ?_⟩
  refine List.forall_mem_cons.mpr ⟨fun _ _ _ _ _ _ _ _ _ _ _ _ _ _ _ _ _ _ X => so_sld X hL (show decode code 453 = .ok (.iaload, 1) from by decide +kernel), ?_⟩
  refine List.forall_mem_cons.mpr ⟨fun _ _ _ _ _ _ _ _ _ _ _ _ _ _ _ _ _ _ X => so_callV (i := 104) (cn := 9) (n := 2) X rfl rfl rfl wq_847 wq_848 wq_849 wq_43 wd_104 wc_104 (show decode code 454 = .ok (.invokevirtual 98, 3) from by decide +kernel), ?_⟩
  refine List.forall_mem_cons.mpr ⟨fun _ _ _ _ _ _ _ _ _ _ _ _ _ _ _ _ _ _ X => so_istore (k := 6) X (show decode code 457 = .ok (.istore 6, 2) from by decide +kernel), ?_⟩
  refine List.forall_mem_cons.mpr ⟨fun _ _ _ _ _ _ _ _ _ _ _ _ _ _ _ _ _ _ X => so_aload_n (k := 2) X (show decode code 459 = .ok (.aload_n 2, 1) from by decide +kernel), ?_⟩
  refine List.forall_mem_cons.mpr ⟨fun _ _ _ _ _ _ _ _ _ _ _ _ _ _ _ _ _ _ X => so_callV (i := 92) (cn := 9) (n := 0) X rfl rfl rfl wq_805 wq_806 wq_807 wq_43 wd_92 wc_92 (show decode code 460 = .ok (.invokevirtual 73, 3) from by decide +kernel), ?_⟩
  refine List.forall_mem_cons.mpr ⟨fun _ _ _ _ _ _ _ _ _ _ _ _ _ _ _ _ _ _ X => so_iload (k := 5) X (show decode code 463 = .ok (.iload 5, 2) from by decide +kernel), ?_⟩
  refine List.forall_mem_cons.mpr ⟨fun _ _ _ _ _ _ _ _ _ _ _ _ _ _ _ _ _ _ X => so_icmp_eq (off := 5) (tgt := 470) X (show decode code 465 = .ok (.if_icmp .eq 5, 3) from by decide +kernel) (by decide), ?_⟩
  refine List.forall_mem_cons.mpr ⟨fun _ _ _ _ _ _ _ _ _ _ _ _ _ _ _ _ _ _ X => so_iconst (n := 0) X (show decode code 468 = .ok (.iconst 0, 1) from by decide +kernel), ?_⟩
  refine List.forall_mem_cons.mpr ⟨fun _ _ _ _ _ _ _ _ _ _ _ _ _ _ _ _ _ _ X => so_zret X rfl (show decode code 469 = .ok (.ireturn, 1) from by decide +kernel), ?_⟩
  refine List.forall_mem_cons.mpr ⟨fun _ _ _ _ _ _ _ _ _ _ _ _ _ _ _ _ _ _ X => so_iload (k := 5) X (show decode code 470 = .ok (.iload 5, 2) from by decide +kernel), ?_⟩
  refine List.forall_mem_cons.mpr ⟨fun _ _ _ _ _ _ _ _ _ _ _ _ _ _ _ _ _ _ X => so_if_ne (off := 15) (tgt := 487) X (show decode code 472 = .ok (.ifCond .ne 15, 3) from by decide +kernel) (by decide), ?_⟩
  refine List.forall_mem_cons.mpr ⟨fun _ _ _ _ _ _ _ _ _ _ _ _ _ _ _ _ _ _ X => so_aload_n (k := 3) X (show decode code 475 = .ok (.aload_n 3, 1) from by decide +kernel), ?_⟩
  refine List.forall_mem_cons.mpr ⟨fun _ _ _ _ _ _ _ _ _ _ _ _ _ _ _ _ _ _ X => so_iconst (n := 0) X (show decode code 476 = .ok (.iconst 0, 1) from by decide +kernel), ?_⟩
  refine List.forall_mem_cons.mpr ⟨fun _ _ _ _ _ _ _ _ _ _ _ _ _ _ _ _ _ _ X => so_lald X (show decode code 477 = .ok (.laload, 1) from by decide +kernel), ?_⟩
  refine List.forall_mem_cons.mpr ⟨fun _ _ _ _ _ _ _ _ _ _ _ _ _ _ _ _ _ _ X => so_iload (k := 6) X (show decode code 478 = .ok (.iload 6, 2) from by decide +kernel), ?_⟩
  refine List.forall_mem_cons.mpr ⟨fun _ _ _ _ _ _ _ _ _ _ _ _ _ _ _ _ _ _ X => so_i2l X (show decode code 480 = .ok (.i2l, 1) from by decide +kernel), ?_⟩
  refine List.forall_mem_cons.mpr ⟨fun _ _ _ _ _ _ _ _ _ _ _ _ _ _ _ _ _ _ X => so_lcmp X (show decode code 481 = .ok (.lcmp, 1) from by decide +kernel), ?_⟩
  refine List.forall_mem_cons.mpr ⟨fun _ _ _ _ _ _ _ _ _ _ _ _ _ _ _ _ _ _ X => so_if_eq (off := 5) (tgt := 487) X (show decode code 482 = .ok (.ifCond .eq 5, 3) from by decide +kernel) (by decide), ?_⟩
  refine List.forall_mem_cons.mpr ⟨fun _ _ _ _ _ _ _ _ _ _ _ _ _ _ _ _ _ _ X => so_iconst (n := 0) X (show decode code 485 = .ok (.iconst 0, 1) from by decide +kernel), ?_⟩
  refine List.forall_mem_cons.mpr ⟨fun _ _ _ _ _ _ _ _ _ _ _ _ _ _ _ _ _ _ X => so_zret X rfl (show decode code 486 = .ok (.ireturn, 1) from by decide +kernel), ?_⟩
  refine List.forall_mem_cons.mpr ⟨fun _ _ _ _ _ _ _ _ _ _ _ _ _ _ _ _ _ _ X => so_goto (off := 511) (tgt := 998) X (show decode code 487 = .ok (.goto 511, 3) from by decide +kernel) (by decide), ?_⟩
  refine List.forall_mem_cons.mpr ⟨fun _ _ _ _ _ _ _ _ _ _ _ _ _ _ _ _ _ _ X => so_aload_n (k := 1) X (show decode code 490 = .ok (.aload_n 1, 1) from by decide +kernel), ?_⟩
  refine List.forall_mem_cons.mpr ⟨fun _ _ _ _ _ _ _ _ _ _ _ _ _ _ _ _ _ _ X => so_aload_n (k := 0) X (show decode code 491 = .ok (.aload_n 0, 1) from by decide +kernel), ?_⟩
  refine List.forall_mem_cons.mpr ⟨fun _ _ _ _ _ _ _ _ _ _ _ _ _ _ _ _ _ _ X => so_iload (k := 4) X (show decode code 492 = .ok (.iload 4, 2) from by decide +kernel), ?_⟩
  refine List.forall_mem_cons.mpr ⟨fun _ _ _ _ _ _ _ _ _ _ _ _ _ _ _ _ _ _ X => so_iconst (n := 1) X (show decode code 494 = .ok (.iconst 1, 1) from by decide +kernel), ?_⟩
  refine List.forall_mem_cons.mpr ⟨fun _ _ _ _ _ _ _ _ _ _ _ _ _ _ _ _ _ _ X => so_iadd X (show decode code 495 = .ok (.iadd, 1) from by decide +kernel), ?_⟩
  refine List.forall_mem_cons.mpr ⟨fun _ _ _ _ _ _ _ _ _ _ _ _ _ _ _ _ _ _ X => so_sld X hL (show decode code 496 = .ok (.iaload, 1) from by decide +kernel), ?_⟩
  refine List.forall_mem_cons.mpr ⟨fun _ _ _ _ _ _ _ _ _ _ _ _ _ _ _ _ _ _ X => so_aload_n (k := 3) X (show decode code 497 = .ok (.aload_n 3, 1) from by decide +kernel), ?_⟩
  refine List.forall_mem_cons.mpr ⟨fun _ _ _ _ _ _ _ _ _ _ _ _ _ _ _ _ _ _ X => so_callSW (i := 133) (n := 3) X rfl wq_501 wq_502 wq_32 wd_133 wc_133 (show decode code 498 = .ok (.invokestatic 99, 3) from by decide +kernel), ?_⟩
  refine List.forall_mem_cons.mpr ⟨fun _ _ _ _ _ _ _ _ _ _ _ _ _ _ _ _ _ _ X => so_istore (k := 5) X (show decode code 501 = .ok (.istore 5, 2) from by decide +kernel), ?_⟩
  refine List.forall_mem_cons.mpr ⟨fun _ _ _ _ _ _ _ _ _ _ _ _ _ _ _ _ _ _ X => so_aload_n (k := 2) X (show decode code 503 = .ok (.aload_n 2, 1) from by decide +kernel), ?_⟩
  refine List.forall_mem_cons.mpr ⟨fun _ _ _ _ _ _ _ _ _ _ _ _ _ _ _ _ _ _ X => so_aload_n (k := 0) X (show decode code 504 = .ok (.aload_n 0, 1) from by decide +kernel), ?_⟩
  refine List.forall_mem_cons.mpr ⟨fun _ _ _ _ _ _ _ _ _ _ _ _ _ _ _ _ _ _ X => so_iload (k := 4) X (show decode code 505 = .ok (.iload 4, 2) from by decide +kernel), ?_⟩
  refine List.forall_mem_cons.mpr ⟨fun _ _ _ _ _ _ _ _ _ _ _ _ _ _ _ _ _ _ X => so_iconst (n := 1) X (show decode code 507 = .ok (.iconst 1, 1) from by decide +kernel), ?_⟩
  refine List.forall_mem_cons.mpr ⟨fun _ _ _ _ _ _ _ _ _ _ _ _ _ _ _ _ _ _ X => so_iadd X (show decode code 508 = .ok (.iadd, 1) from by decide +kernel), ?_⟩
  refine List.forall_mem_cons.mpr ⟨fun _ _ _ _ _ _ _ _ _ _ _ _ _ _ _ _ _ _ X => so_sld X hL (show decode code 509 = .ok (.iaload, 1) from by decide +kernel), ?_⟩
  refine List.forall_mem_cons.mpr ⟨fun _ _ _ _ _ _ _ _ _ _ _ _ _ _ _ _ _ _ X => so_callV (i := 114) (cn := 9) (n := 1) X rfl rfl rfl wq_855 wq_856 wq_857 wq_43 wd_114 wc_114 (show decode code 510 = .ok (.invokevirtual 101, 3) from by decide +kernel), ?_⟩
  refine List.forall_mem_cons.mpr ⟨fun _ _ _ _ _ _ _ _ _ _ _ _ _ _ _ _ _ _ X => so_istore (k := 6) X (show decode code 513 = .ok (.istore 6, 2) from by decide +kernel), ?_⟩
  refine List.forall_mem_cons.mpr ⟨fun _ _ _ _ _ _ _ _ _ _ _ _ _ _ _ _ _ _ X => so_aload_n (k := 2) X (show decode code 515 = .ok (.aload_n 2, 1) from by decide +kernel), ?_⟩
  refine List.forall_mem_cons.mpr ⟨fun _ _ _ _ _ _ _ _ _ _ _ _ _ _ _ _ _ _ X => so_callV (i := 92) (cn := 9) (n := 0) X rfl rfl rfl wq_805 wq_806 wq_807 wq_43 wd_92 wc_92 (show decode code 516 = .ok (.invokevirtual 73, 3) from by decide +kernel), ?_⟩
  refine List.forall_mem_cons.mpr ⟨fun _ _ _ _ _ _ _ _ _ _ _ _ _ _ _ _ _ _ X => so_iload (k := 5) X (show decode code 519 = .ok (.iload 5, 2) from by decide +kernel), ?_⟩
  refine List.forall_mem_cons.mpr ⟨fun _ _ _ _ _ _ _ _ _ _ _ _ _ _ _ _ _ _ X => so_icmp_eq (off := 5) (tgt := 526) X (show decode code 521 = .ok (.if_icmp .eq 5, 3) from by decide +kernel) (by decide), ?_⟩
  refine List.forall_mem_cons.mpr ⟨fun _ _ _ _ _ _ _ _ _ _ _ _ _ _ _ _ _ _ X => so_iconst (n := 0) X (show decode code 524 = .ok (.iconst 0, 1) from by decide +kernel), ?_⟩
  refine List.forall_mem_cons.mpr ⟨fun _ _ _ _ _ _ _ _ _ _ _ _ _ _ _ _ _ _ X => so_zret X rfl (show decode code 525 = .ok (.ireturn, 1) from by decide +kernel), ?_⟩
  refine List.forall_mem_cons.mpr ⟨fun _ _ _ _ _ _ _ _ _ _ _ _ _ _ _ _ _ _ X => so_iload (k := 5) X (show decode code 526 = .ok (.iload 5, 2) from by decide +kernel), ?_⟩
  refine List.forall_mem_cons.mpr ⟨fun _ _ _ _ _ _ _ _ _ _ _ _ _ _ _ _ _ _ X => so_if_ne (off := 15) (tgt := 543) X (show decode code 528 = .ok (.ifCond .ne 15, 3) from by decide +kernel) (by decide), ?_⟩
  refine List.forall_mem_cons.mpr ⟨fun _ _ _ _ _ _ _ _ _ _ _ _ _ _ _ _ _ _ X => so_aload_n (k := 3) X (show decode code 531 = .ok (.aload_n 3, 1) from by decide +kernel), ?_⟩
  refine List.forall_mem_cons.mpr ⟨fun _ _ _ _ _ _ _ _ _ _ _ _ _ _ _ _ _ _ X => so_iconst (n := 0) X (show decode code 532 = .ok (.iconst 0, 1) from by decide +kernel), ?_⟩
  refine List.forall_mem_cons.mpr ⟨fun _ _ _ _ _ _ _ _ _ _ _ _ _ _ _ _ _ _ X => so_lald X (show decode code 533 = .ok (.laload, 1) from by decide +kernel), ?_⟩
  refine List.forall_mem_cons.mpr ⟨fun _ _ _ _ _ _ _ _ _ _ _ _ _ _ _ _ _ _ X => so_iload (k := 6) X (show decode code 534 = .ok (.iload 6, 2) from by decide +kernel), ?_⟩
  refine List.forall_mem_cons.mpr ⟨fun _ _ _ _ _ _ _ _ _ _ _ _ _ _ _ _ _ _ X => so_i2l X (show decode code 536 = .ok (.i2l, 1) from by decide +kernel), ?_⟩
  refine List.forall_mem_cons.mpr ⟨fun _ _ _ _ _ _ _ _ _ _ _ _ _ _ _ _ _ _ X => so_lcmp X (show decode code 537 = .ok (.lcmp, 1) from by decide +kernel), ?_⟩
  refine List.forall_mem_cons.mpr ⟨fun _ _ _ _ _ _ _ _ _ _ _ _ _ _ _ _ _ _ X => so_if_eq (off := 5) (tgt := 543) X (show decode code 538 = .ok (.ifCond .eq 5, 3) from by decide +kernel) (by decide), ?_⟩
  refine List.forall_mem_cons.mpr ⟨fun _ _ _ _ _ _ _ _ _ _ _ _ _ _ _ _ _ _ X => so_iconst (n := 0) X (show decode code 541 = .ok (.iconst 0, 1) from by decide +kernel), ?_⟩
  refine List.forall_mem_cons.mpr ⟨fun _ _ _ _ _ _ _ _ _ _ _ _ _ _ _ _ _ _ X => so_zret X rfl (show decode code 542 = .ok (.ireturn, 1) from by decide +kernel), ?_⟩
  refine List.forall_mem_cons.mpr ⟨fun _ _ _ _ _ _ _ _ _ _ _ _ _ _ _ _ _ _ X => so_goto (off := 455) (tgt := 998) X (show decode code 543 = .ok (.goto 455, 3) from by decide +kernel) (by decide), ?_⟩
  refine List.forall_mem_cons.mpr ⟨fun _ _ _ _ _ _ _ _ _ _ _ _ _ _ _ _ _ _ X => so_aload_n (k := 1) X (show decode code 546 = .ok (.aload_n 1, 1) from by decide +kernel), ?_⟩
  refine List.forall_mem_cons.mpr ⟨fun _ _ _ _ _ _ _ _ _ _ _ _ _ _ _ _ _ _ X => so_aload_n (k := 0) X (show decode code 547 = .ok (.aload_n 0, 1) from by decide +kernel), ?_⟩
  refine List.forall_mem_cons.mpr ⟨fun _ _ _ _ _ _ _ _ _ _ _ _ _ _ _ _ _ _ X => so_iload (k := 4) X (show decode code 548 = .ok (.iload 4, 2) from by decide +kernel), ?_⟩
  refine List.forall_mem_cons.mpr ⟨fun _ _ _ _ _ _ _ _ _ _ _ _ _ _ _ _ _ _ X => so_iconst (n := 1) X (show decode code 550 = .ok (.iconst 1, 1) from by decide +kernel), ?_⟩
  refine List.forall_mem_cons.mpr ⟨fun _ _ _ _ _ _ _ _ _ _ _ _ _ _ _ _ _ _ X => so_iadd X (show decode code 551 = .ok (.iadd, 1) from by decide +kernel), ?_⟩
  refine List.forall_mem_cons.mpr ⟨fun _ _ _ _ _ _ _ _ _ _ _ _ _ _ _ _ _ _ X => so_sld X hL (show decode code 552 = .ok (.iaload, 1) from by decide +kernel), ?_⟩
  refine List.forall_mem_cons.mpr ⟨fun _ _ _ _ _ _ _ _ _ _ _ _ _ _ _ _ _ _ X => so_aload_n (k := 0) X (show decode code 553 = .ok (.aload_n 0, 1) from by decide +kernel), ?_⟩
  refine List.forall_mem_cons.mpr ⟨fun _ _ _ _ _ _ _ _ _ _ _ _ _ _ _ _ _ _ X => so_iload (k := 4) X (show decode code 554 = .ok (.iload 4, 2) from by decide +kernel), ?_⟩
  refine List.forall_mem_cons.mpr ⟨fun _ _ _ _ _ _ _ _ _ _ _ _ _ _ _ _ _ _ X => so_iconst (n := 2) X (show decode code 556 = .ok (.iconst 2, 1) from by decide +kernel), ?_⟩
  refine List.forall_mem_cons.mpr ⟨fun _ _ _ _ _ _ _ _ _ _ _ _ _ _ _ _ _ _ X => so_iadd X (show decode code 557 = .ok (.iadd, 1) from by decide +kernel), ?_⟩
  refine List.forall_mem_cons.mpr ⟨fun _ _ _ _ _ _ _ _ _ _ _ _ _ _ _ _ _ _ X => so_sld X hL (show decode code 558 = .ok (.iaload, 1) from by decide +kernel), ?_⟩
  refine List.forall_mem_cons.mpr ⟨fun _ _ _ _ _ _ _ _ _ _ _ _ _ _ _ _ _ _ X => so_aload_n (k := 3) X (show decode code 559 = .ok (.aload_n 3, 1) from by decide +kernel), ?_⟩
  refine List.forall_mem_cons.mpr ⟨fun _ _ _ _ _ _ _ _ _ _ _ _ _ _ _ _ _ _ X => so_callSW (i := 134) (n := 4) X rfl wq_531 wq_532 wq_32 wd_134 wc_134 (show decode code 560 = .ok (.invokestatic 102, 3) from by decide +kernel), ?_⟩
  refine List.forall_mem_cons.mpr ⟨fun _ _ _ _ _ _ _ _ _ _ _ _ _ _ _ _ _ _ X => so_istore (k := 5) X (show decode code 563 = .ok (.istore 5, 2) from by decide +kernel), ?_⟩
  refine List.forall_mem_cons.mpr ⟨fun _ _ _ _ _ _ _ _ _ _ _ _ _ _ _ _ _ _ X => so_aload_n (k := 2) X (show decode code 565 = .ok (.aload_n 2, 1) from by decide +kernel), ?_⟩
  refine List.forall_mem_cons.mpr ⟨fun _ _ _ _ _ _ _ _ _ _ _ _ _ _ _ _ _ _ X => so_aload_n (k := 0) X (show decode code 566 = .ok (.aload_n 0, 1) from by decide +kernel), ?_⟩
  refine List.forall_mem_cons.mpr ⟨fun _ _ _ _ _ _ _ _ _ _ _ _ _ _ _ _ _ _ X => so_iload (k := 4) X (show decode code 567 = .ok (.iload 4, 2) from by decide +kernel), ?_⟩
  refine List.forall_mem_cons.mpr ⟨fun _ _ _ _ _ _ _ _ _ _ _ _ _ _ _ _ _ _ X => so_iconst (n := 1) X (show decode code 569 = .ok (.iconst 1, 1) from by decide +kernel), ?_⟩
  refine List.forall_mem_cons.mpr ⟨fun _ _ _ _ _ _ _ _ _ _ _ _ _ _ _ _ _ _ X => so_iadd X (show decode code 570 = .ok (.iadd, 1) from by decide +kernel), ?_⟩
  refine List.forall_mem_cons.mpr ⟨fun _ _ _ _ _ _ _ _ _ _ _ _ _ _ _ _ _ _ X => so_sld X hL (show decode code 571 = .ok (.iaload, 1) from by decide +kernel), ?_⟩
  refine List.forall_mem_cons.mpr ⟨fun _ _ _ _ _ _ _ _ _ _ _ _ _ _ _ _ _ _ X => so_aload_n (k := 0) X (show decode code 572 = .ok (.aload_n 0, 1) from by decide +kernel), ?_⟩
  refine List.forall_mem_cons.mpr ⟨fun _ _ _ _ _ _ _ _ _ _ _ _ _ _ _ _ _ _ X => so_iload (k := 4) X (show decode code 573 = .ok (.iload 4, 2) from by decide +kernel), ?_⟩
  refine List.forall_mem_cons.mpr ⟨fun _ _ _ _ _ _ _ _ _ _ _ _ _ _ _ _ _ _ X => so_iconst (n := 2) X (show decode code 575 = .ok (.iconst 2, 1) from by decide +kernel), ?_⟩
  refine List.forall_mem_cons.mpr ⟨fun _ _ _ _ _ _ _ _ _ _ _ _ _ _ _ _ _ _ X => so_iadd X (show decode code 576 = .ok (.iadd, 1) from by decide +kernel), ?_⟩
  refine List.forall_mem_cons.mpr ⟨fun _ _ _ _ _ _ _ _ _ _ _ _ _ _ _ _ _ _ X => so_sld X hL (show decode code 577 = .ok (.iaload, 1) from by decide +kernel), ?_⟩
  refine List.forall_mem_cons.mpr ⟨fun _ _ _ _ _ _ _ _ _ _ _ _ _ _ _ _ _ _ X => so_callV (i := 115) (cn := 9) (n := 2) X rfl rfl rfl wq_872 wq_873 wq_874 wq_43 wd_115 wc_115 (show decode code 578 = .ok (.invokevirtual 104, 3) from by decide +kernel), ?_⟩
  refine List.forall_mem_cons.mpr ⟨fun _ _ _ _ _ _ _ _ _ _ _ _ _ _ _ _ _ _ X => so_istore (k := 6) X (show decode code 581 = .ok (.istore 6, 2) from by decide +kernel), ?_⟩
  refine List.forall_mem_cons.mpr ⟨fun _ _ _ _ _ _ _ _ _ _ _ _ _ _ _ _ _ _ X => so_aload_n (k := 2) X (show decode code 583 = .ok (.aload_n 2, 1) from by decide +kernel), ?_⟩
  refine List.forall_mem_cons.mpr ⟨fun _ _ _ _ _ _ _ _ _ _ _ _ _ _ _ _ _ _ X => so_callV (i := 92) (cn := 9) (n := 0) X rfl rfl rfl wq_805 wq_806 wq_807 wq_43 wd_92 wc_92 (show decode code 584 = .ok (.invokevirtual 73, 3) from by decide +kernel), ?_⟩
  refine List.forall_mem_cons.mpr ⟨fun _ _ _ _ _ _ _ _ _ _ _ _ _ _ _ _ _ _ X => so_iload (k := 5) X (show decode code 587 = .ok (.iload 5, 2) from by decide +kernel), ?_⟩
  refine List.forall_mem_cons.mpr ⟨fun _ _ _ _ _ _ _ _ _ _ _ _ _ _ _ _ _ _ X => so_icmp_eq (off := 5) (tgt := 594) X (show decode code 589 = .ok (.if_icmp .eq 5, 3) from by decide +kernel) (by decide), ?_⟩
  refine List.forall_mem_cons.mpr ⟨fun _ _ _ _ _ _ _ _ _ _ _ _ _ _ _ _ _ _ X => so_iconst (n := 0) X (show decode code 592 = .ok (.iconst 0, 1) from by decide +kernel), ?_⟩
  refine List.forall_mem_cons.mpr ⟨fun _ _ _ _ _ _ _ _ _ _ _ _ _ _ _ _ _ _ X => so_zret X rfl (show decode code 593 = .ok (.ireturn, 1) from by decide +kernel), ?_⟩
  refine List.forall_mem_cons.mpr ⟨fun _ _ _ _ _ _ _ _ _ _ _ _ _ _ _ _ _ _ X => so_iload (k := 5) X (show decode code 594 = .ok (.iload 5, 2) from by decide +kernel), ?_⟩
  refine List.forall_mem_cons.mpr ⟨fun _ _ _ _ _ _ _ _ _ _ _ _ _ _ _ _ _ _ X => so_if_ne (off := 15) (tgt := 611) X (show decode code 596 = .ok (.ifCond .ne 15, 3) from by decide +kernel) (by decide), ?_⟩
  refine List.forall_mem_cons.mpr ⟨fun _ _ _ _ _ _ _ _ _ _ _ _ _ _ _ _ _ _ X => so_aload_n (k := 3) X (show decode code 599 = .ok (.aload_n 3, 1) from by decide +kernel), ?_⟩
  refine List.forall_mem_cons.mpr ⟨fun _ _ _ _ _ _ _ _ _ _ _ _ _ _ _ _ _ _ X => so_iconst (n := 0) X (show decode code 600 = .ok (.iconst 0, 1) from by decide +kernel), ?_⟩
  refine List.forall_mem_cons.mpr ⟨fun _ _ _ _ _ _ _ _ _ _ _ _ _ _ _ _ _ _ X => so_lald X (show decode code 601 = .ok (.laload, 1) from by decide +kernel), ?_⟩
  refine List.forall_mem_cons.mpr ⟨fun _ _ _ _ _ _ _ _ _ _ _ _ _ _ _ _ _ _ X => so_iload (k := 6) X (show decode code 602 = .ok (.iload 6, 2) from by decide +kernel), ?_⟩
  refine List.forall_mem_cons.mpr ⟨fun _ _ _ _ _ _ _ _ _ _ _ _ _ _ _ _ _ _ X => so_i2l X (show decode code 604 = .ok (.i2l, 1) from by decide +kernel), ?_⟩
  refine List.forall_mem_cons.mpr ⟨fun _ _ _ _ _ _ _ _ _ _ _ _ _ _ _ _ _ _ X => so_lcmp X (show decode code 605 = .ok (.lcmp, 1) from by decide +kernel), ?_⟩
  refine List.forall_mem_cons.mpr ⟨fun _ _ _ _ _ _ _ _ _ _ _ _ _ _ _ _ _ _ X => so_if_eq (off := 5) (tgt := 611) X (show decode code 606 = .ok (.ifCond .eq 5, 3) from by decide +kernel) (by decide), ?_⟩
  refine List.forall_mem_cons.mpr ⟨fun _ _ _ _ _ _ _ _ _ _ _ _ _ _ _ _ _ _ X => so_iconst (n := 0) X (show decode code 609 = .ok (.iconst 0, 1) from by decide +kernel), ?_⟩
  refine List.forall_mem_cons.mpr ⟨fun _ _ _ _ _ _ _ _ _ _ _ _ _ _ _ _ _ _ X => so_zret X rfl (show decode code 610 = .ok (.ireturn, 1) from by decide +kernel), ?_⟩
  refine List.forall_mem_cons.mpr ⟨fun _ _ _ _ _ _ _ _ _ _ _ _ _ _ _ _ _ _ X => so_goto (off := 387) (tgt := 998) X (show decode code 611 = .ok (.goto 387, 3) from by decide +kernel) (by decide), ?_⟩
  refine List.forall_mem_cons.mpr ⟨fun _ _ _ _ _ _ _ _ _ _ _ _ _ _ _ _ _ _ X => so_aload_n (k := 1) X (show decode code 614 = .ok (.aload_n 1, 1) from by decide +kernel), ?_⟩
  refine List.forall_mem_cons.mpr ⟨fun _ _ _ _ _ _ _ _ _ _ _ _ _ _ _ _ _ _ X => so_aload_n (k := 0) X (show decode code 615 = .ok (.aload_n 0, 1) from by decide +kernel), ?_⟩
  refine List.forall_mem_cons.mpr ⟨fun _ _ _ _ _ _ _ _ _ _ _ _ _ _ _ _ _ _ X => so_iload (k := 4) X (show decode code 616 = .ok (.iload 4, 2) from by decide +kernel), ?_⟩
  refine List.forall_mem_cons.mpr ⟨fun _ _ _ _ _ _ _ _ _ _ _ _ _ _ _ _ _ _ X => so_iconst (n := 1) X (show decode code 618 = .ok (.iconst 1, 1) from by decide +kernel), ?_⟩
  refine List.forall_mem_cons.mpr ⟨fun _ _ _ _ _ _ _ _ _ _ _ _ _ _ _ _ _ _ X => so_iadd X (show decode code 619 = .ok (.iadd, 1) from by decide +kernel), ?_⟩
  refine List.forall_mem_cons.mpr ⟨fun _ _ _ _ _ _ _ _ _ _ _ _ _ _ _ _ _ _ X => so_sld X hL (show decode code 620 = .ok (.iaload, 1) from by decide +kernel), ?_⟩
  refine List.forall_mem_cons.mpr ⟨fun _ _ _ _ _ _ _ _ _ _ _ _ _ _ _ _ _ _ X => so_aload_n (k := 0) X (show decode code 621 = .ok (.aload_n 0, 1) from by decide +kernel), ?_⟩
  refine List.forall_mem_cons.mpr ⟨fun _ _ _ _ _ _ _ _ _ _ _ _ _ _ _ _ _ _ X => so_iload (k := 4) X (show decode code 622 = .ok (.iload 4, 2) from by decide +kernel), ?_⟩
  refine List.forall_mem_cons.mpr ⟨fun _ _ _ _ _ _ _ _ _ _ _ _ _ _ _ _ _ _ X => so_iconst (n := 2) X (show decode code 624 = .ok (.iconst 2, 1) from by decide +kernel), ?_⟩
  refine List.forall_mem_cons.mpr ⟨fun _ _ _ _ _ _ _ _ _ _ _ _ _ _ _ _ _ _ X => so_iadd X (show decode code 625 = .ok (.iadd, 1) from by decide +kernel), ?_⟩
  refine List.forall_mem_cons.mpr ⟨fun _ _ _ _ _ _ _ _ _ _ _ _ _ _ _ _ _ _ X => so_sld X hL (show decode code 626 = .ok (.iaload, 1) from by decide +kernel), ?_⟩
  refine List.forall_mem_cons.mpr ⟨fun _ _ _ _ _ _ _ _ _ _ _ _ _ _ _ _ _ _ X => so_aload_n (k := 3) X (show decode code 627 = .ok (.aload_n 3, 1) from by decide +kernel), ?_⟩
  refine List.forall_mem_cons.mpr ⟨fun _ _ _ _ _ _ _ _ _ _ _ _ _ _ _ _ _ _ X => so_callSW (i := 135) (n := 4) X rfl wq_543 wq_544 wq_32 wd_135 wc_135 (show decode code 628 = .ok (.invokestatic 105, 3) from by decide +kernel), ?_⟩
  refine List.forall_mem_cons.mpr ⟨fun _ _ _ _ _ _ _ _ _ _ _ _ _ _ _ _ _ _ X => so_istore (k := 5) X (show decode code 631 = .ok (.istore 5, 2) from by decide +kernel), ?_⟩
  refine List.forall_mem_cons.mpr ⟨fun _ _ _ _ _ _ _ _ _ _ _ _ _ _ _ _ _ _ X => so_aload_n (k := 2) X (show decode code 633 = .ok (.aload_n 2, 1) from by decide +kernel), ?_⟩
  refine List.forall_mem_cons.mpr ⟨fun _ _ _ _ _ _ _ _ _ _ _ _ _ _ _ _ _ _ X => so_aload_n (k := 0) X (show decode code 634 = .ok (.aload_n 0, 1) from by decide +kernel), ?_⟩
  refine List.forall_mem_cons.mpr ⟨fun _ _ _ _ _ _ _ _ _ _ _ _ _ _ _ _ _ _ X => so_iload (k := 4) X (show decode code 635 = .ok (.iload 4, 2) from by decide +kernel), ?_⟩
  refine List.forall_mem_cons.mpr ⟨fun _ _ _ _ _ _ _ _ _ _ _ _ _ _ _ _ _ _ X => so_iconst (n := 1) X (show decode code 637 = .ok (.iconst 1, 1) from by decide +kernel), ?_⟩
  refine List.forall_mem_cons.mpr ⟨fun _ _ _ _ _ _ _ _ _ _ _ _ _ _ _ _ _ _ X => so_iadd X (show decode code 638 = .ok (.iadd, 1) from by decide +kernel), ?_⟩
  refine List.forall_mem_cons.mpr ⟨fun _ _ _ _ _ _ _ _ _ _ _ _ _ _ _ _ _ _ X => so_sld X hL (show decode code 639 = .ok (.iaload, 1) from by decide +kernel), ?_⟩
  refine List.forall_mem_cons.mpr ⟨fun _ _ _ _ _ _ _ _ _ _ _ _ _ _ _ _ _ _ X => so_aload_n (k := 0) X (show decode code 640 = .ok (.aload_n 0, 1) from by decide +kernel), ?_⟩
  refine List.forall_mem_cons.mpr ⟨fun _ _ _ _ _ _ _ _ _ _ _ _ _ _ _ _ _ _ X => so_iload (k := 4) X (show decode code 641 = .ok (.iload 4, 2) from by decide +kernel), ?_⟩
  refine List.forall_mem_cons.mpr ⟨fun _ _ _ _ _ _ _ _ _ _ _ _ _ _ _ _ _ _ X => so_iconst (n := 2) X (show decode code 643 = .ok (.iconst 2, 1) from by decide +kernel), ?_⟩
  refine List.forall_mem_cons.mpr ⟨fun _ _ _ _ _ _ _ _ _ _ _ _ _ _ _ _ _ _ X => so_iadd X (show decode code 644 = .ok (.iadd, 1) from by decide +kernel), ?_⟩
  refine List.forall_mem_cons.mpr ⟨fun _ _ _ _ _ _ _ _ _ _ _ _ _ _ _ _ _ _ X => so_sld X hL (show decode code 645 = .ok (.iaload, 1) from by decide +kernel), ?_⟩
  refine List.forall_mem_cons.mpr ⟨fun _ _ _ _ _ _ _ _ _ _ _ _ _ _ _ _ _ _ X => so_callV (i := 118) (cn := 9) (n := 2) X rfl rfl rfl wq_880 wq_881 wq_882 wq_43 wd_118 wc_118 (show decode code 646 = .ok (.invokevirtual 107, 3) from by decide +kernel), ?_⟩
  refine List.forall_mem_cons.mpr ⟨fun _ _ _ _ _ _ _ _ _ _ _ _ _ _ _ _ _ _ X => so_istore (k := 6) X (show decode code 649 = .ok (.istore 6, 2) from by decide +kernel), ?_⟩
  refine List.forall_mem_cons.mpr ⟨fun _ _ _ _ _ _ _ _ _ _ _ _ _ _ _ _ _ _ X => so_aload_n (k := 2) X (show decode code 651 = .ok (.aload_n 2, 1) from by decide +kernel), ?_⟩
  refine List.forall_mem_cons.mpr ⟨fun _ _ _ _ _ _ _ _ _ _ _ _ _ _ _ _ _ _ X => so_callV (i := 92) (cn := 9) (n := 0) X rfl rfl rfl wq_805 wq_806 wq_807 wq_43 wd_92 wc_92 (show decode code 652 = .ok (.invokevirtual 73, 3) from by decide +kernel), ?_⟩
  refine List.forall_mem_cons.mpr ⟨fun _ _ _ _ _ _ _ _ _ _ _ _ _ _ _ _ _ _ X => so_iload (k := 5) X (show decode code 655 = .ok (.iload 5, 2) from by decide +kernel), ?_⟩
  refine List.forall_mem_cons.mpr ⟨fun _ _ _ _ _ _ _ _ _ _ _ _ _ _ _ _ _ _ X => so_icmp_eq (off := 5) (tgt := 662) X (show decode code 657 = .ok (.if_icmp .eq 5, 3) from by decide +kernel) (by decide), ?_⟩
  refine List.forall_mem_cons.mpr ⟨fun _ _ _ _ _ _ _ _ _ _ _ _ _ _ _ _ _ _ X => so_iconst (n := 0) X (show decode code 660 = .ok (.iconst 0, 1) from by decide +kernel), ?_⟩
  refine List.forall_mem_cons.mpr ⟨fun _ _ _ _ _ _ _ _ _ _ _ _ _ _ _ _ _ _ X => so_zret X rfl (show decode code 661 = .ok (.ireturn, 1) from by decide +kernel), ?_⟩
  refine List.forall_mem_cons.mpr ⟨fun _ _ _ _ _ _ _ _ _ _ _ _ _ _ _ _ _ _ X => so_iload (k := 5) X (show decode code 662 = .ok (.iload 5, 2) from by decide +kernel), ?_⟩
  refine List.forall_mem_cons.mpr ⟨fun _ _ _ _ _ _ _ _ _ _ _ _ _ _ _ _ _ _ X => so_if_ne (off := 15) (tgt := 679) X (show decode code 664 = .ok (.ifCond .ne 15, 3) from by decide +kernel) (by decide), ?_⟩
  refine List.forall_mem_cons.mpr ⟨fun _ _ _ _ _ _ _ _ _ _ _ _ _ _ _ _ _ _ X => so_aload_n (k := 3) X (show decode code 667 = .ok (.aload_n 3, 1) from by decide +kernel), ?_⟩
  refine List.forall_mem_cons.mpr ⟨fun _ _ _ _ _ _ _ _ _ _ _ _ _ _ _ _ _ _ X => so_iconst (n := 0) X (show decode code 668 = .ok (.iconst 0, 1) from by decide +kernel), ?_⟩
  refine List.forall_mem_cons.mpr ⟨fun _ _ _ _ _ _ _ _ _ _ _ _ _ _ _ _ _ _ X => so_lald X (show decode code 669 = .ok (.laload, 1) from by decide +kernel), ?_⟩
  refine List.forall_mem_cons.mpr ⟨fun _ _ _ _ _ _ _ _ _ _ _ _ _ _ _ _ _ _ X => so_iload (k := 6) X (show decode code 670 = .ok (.iload 6, 2) from by decide +kernel), ?_⟩
  refine List.forall_mem_cons.mpr ⟨fun _ _ _ _ _ _ _ _ _ _ _ _ _ _ _ _ _ _ X => so_i2l X (show decode code 672 = .ok (.i2l, 1) from by decide +kernel), ?_⟩
  refine List.forall_mem_cons.mpr ⟨fun _ _ _ _ _ _ _ _ _ _ _ _ _ _ _ _ _ _ X => so_lcmp X (show decode code 673 = .ok (.lcmp, 1) from by decide +kernel), ?_⟩
  refine List.forall_mem_cons.mpr ⟨fun _ _ _ _ _ _ _ _ _ _ _ _ _ _ _ _ _ _ X => so_if_eq (off := 5) (tgt := 679) X (show decode code 674 = .ok (.ifCond .eq 5, 3) from by decide +kernel) (by decide), ?_⟩
  refine List.forall_mem_cons.mpr ⟨fun _ _ _ _ _ _ _ _ _ _ _ _ _ _ _ _ _ _ X => so_iconst (n := 0) X (show decode code 677 = .ok (.iconst 0, 1) from by decide +kernel), ?_⟩
  refine List.forall_mem_cons.mpr ⟨fun _ _ _ _ _ _ _ _ _ _ _ _ _ _ _ _ _ _ X => so_zret X rfl (show decode code 678 = .ok (.ireturn, 1) from by decide +kernel), ?_⟩
  refine List.forall_mem_cons.mpr ⟨fun _ _ _ _ _ _ _ _ _ _ _ _ _ _ _ _ _ _ X => so_goto (off := 319) (tgt := 998) X (show decode code 679 = .ok (.goto 319, 3) from by decide +kernel) (by decide), ?_⟩
  refine List.forall_mem_cons.mpr ⟨fun _ _ _ _ _ _ _ _ _ _ _ _ _ _ _ _ _ _ X => so_aload_n (k := 1) X (show decode code 682 = .ok (.aload_n 1, 1) from by decide +kernel), ?_⟩
  refine List.forall_mem_cons.mpr ⟨fun _ _ _ _ _ _ _ _ _ _ _ _ _ _ _ _ _ _ X => so_aload_n (k := 0) X (show decode code 683 = .ok (.aload_n 0, 1) from by decide +kernel), ?_⟩
  refine List.forall_mem_cons.mpr ⟨fun _ _ _ _ _ _ _ _ _ _ _ _ _ _ _ _ _ _ X => so_iload (k := 4) X (show decode code 684 = .ok (.iload 4, 2) from by decide +kernel), ?_⟩
  refine List.forall_mem_cons.mpr ⟨fun _ _ _ _ _ _ _ _ _ _ _ _ _ _ _ _ _ _ X => so_iconst (n := 1) X (show decode code 686 = .ok (.iconst 1, 1) from by decide +kernel), ?_⟩
  refine List.forall_mem_cons.mpr ⟨fun _ _ _ _ _ _ _ _ _ _ _ _ _ _ _ _ _ _ X => so_iadd X (show decode code 687 = .ok (.iadd, 1) from by decide +kernel), ?_⟩
  refine List.forall_mem_cons.mpr ⟨fun _ _ _ _ _ _ _ _ _ _ _ _ _ _ _ _ _ _ X => so_sld X hL (show decode code 688 = .ok (.iaload, 1) from by decide +kernel), ?_⟩
  refine List.forall_mem_cons.mpr ⟨fun _ _ _ _ _ _ _ _ _ _ _ _ _ _ _ _ _ _ X => so_aload_n (k := 0) X (show decode code 689 = .ok (.aload_n 0, 1) from by decide +kernel), ?_⟩
  refine List.forall_mem_cons.mpr ⟨fun _ _ _ _ _ _ _ _ _ _ _ _ _ _ _ _ _ _ X => so_iload (k := 4) X (show decode code 690 = .ok (.iload 4, 2) from by decide +kernel), ?_⟩
  refine List.forall_mem_cons.mpr ⟨fun _ _ _ _ _ _ _ _ _ _ _ _ _ _ _ _ _ _ X => so_iconst (n := 2) X (show decode code 692 = .ok (.iconst 2, 1) from by decide +kernel), ?_⟩
  refine List.forall_mem_cons.mpr ⟨fun _ _ _ _ _ _ _ _ _ _ _ _ _ _ _ _ _ _ X => so_iadd X (show decode code 693 = .ok (.iadd, 1) from by decide +kernel), ?_⟩
  refine List.forall_mem_cons.mpr ⟨fun _ _ _ _ _ _ _ _ _ _ _ _ _ _ _ _ _ _ X => so_sld X hL (show decode code 694 = .ok (.iaload, 1) from by decide +kernel), ?_⟩
  refine List.forall_mem_cons.mpr ⟨fun _ _ _ _ _ _ _ _ _ _ _ _ _ _ _ _ _ _ X => so_aload_n (k := 3) X (show decode code 695 = .ok (.aload_n 3, 1) from by decide +kernel), ?_⟩
  refine List.forall_mem_cons.mpr ⟨fun _ _ _ _ _ _ _ _ _ _ _ _ _ _ _ _ _ _ X => so_callSW (i := 136) (n := 4) X rfl wq_655 wq_656 wq_32 wd_136 wc_136 (show decode code 696 = .ok (.invokestatic 108, 3) from by decide +kernel), ?_⟩
  refine List.forall_mem_cons.mpr ⟨fun _ _ _ _ _ _ _ _ _ _ _ _ _ _ _ _ _ _ X => so_istore (k := 5) X (show decode code 699 = .ok (.istore 5, 2) from by decide +kernel), ?_⟩
  refine List.forall_mem_cons.mpr ⟨fun _ _ _ _ _ _ _ _ _ _ _ _ _ _ _ _ _ _ X => so_aload_n (k := 2) X (show decode code 701 = .ok (.aload_n 2, 1) from by decide +kernel), ?_⟩
  refine List.forall_mem_cons.mpr ⟨fun _ _ _ _ _ _ _ _ _ _ _ _ _ _ _ _ _ _ X => so_aload_n (k := 0) X (show decode code 702 = .ok (.aload_n 0, 1) from by decide +kernel), ?_⟩
  refine List.forall_mem_cons.mpr ⟨fun _ _ _ _ _ _ _ _ _ _ _ _ _ _ _ _ _ _ X => so_iload (k := 4) X (show decode code 703 = .ok (.iload 4, 2) from by decide +kernel), ?_⟩
  refine List.forall_mem_cons.mpr ⟨fun _ _ _ _ _ _ _ _ _ _ _ _ _ _ _ _ _ _ X => so_iconst (n := 1) X (show decode code 705 = .ok (.iconst 1, 1) from by decide +kernel), ?_⟩
  refine List.forall_mem_cons.mpr ⟨fun _ _ _ _ _ _ _ _ _ _ _ _ _ _ _ _ _ _ X => so_iadd X (show decode code 706 = .ok (.iadd, 1) from by decide +kernel), ?_⟩
  refine List.forall_mem_cons.mpr ⟨fun _ _ _ _ _ _ _ _ _ _ _ _ _ _ _ _ _ _ X => so_sld X hL (show decode code 707 = .ok (.iaload, 1) from by decide +kernel), ?_⟩
  refine List.forall_mem_cons.mpr ⟨fun _ _ _ _ _ _ _ _ _ _ _ _ _ _ _ _ _ _ X => so_aload_n (k := 0) X (show decode code 708 = .ok (.aload_n 0, 1) from by decide +kernel), ?_⟩
  refine List.forall_mem_cons.mpr ⟨fun _ _ _ _ _ _ _ _ _ _ _ _ _ _ _ _ _ _ X => so_iload (k := 4) X (show decode code 709 = .ok (.iload 4, 2) from by decide +kernel), ?_⟩
  refine List.forall_mem_cons.mpr ⟨fun _ _ _ _ _ _ _ _ _ _ _ _ _ _ _ _ _ _ X => so_iconst (n := 2) X (show decode code 711 = .ok (.iconst 2, 1) from by decide +kernel), ?_⟩
  refine List.forall_mem_cons.mpr ⟨fun _ _ _ _ _ _ _ _ _ _ _ _ _ _ _ _ _ _ X => so_iadd X (show decode code 712 = .ok (.iadd, 1) from by decide +kernel), ?_⟩
  refine List.forall_mem_cons.mpr ⟨fun _ _ _ _ _ _ _ _ _ _ _ _ _ _ _ _ _ _ X => so_sld X hL (show decode code 713 = .ok (.iaload, 1) from by decide +kernel), ?_⟩
  refine List.forall_mem_cons.mpr ⟨fun _ _ _ _ _ _ _ _ _ _ _ _ _ _ _ _ _ _ X => so_callV (i := 119) (cn := 9) (n := 2) X rfl rfl rfl wq_911 wq_912 wq_913 wq_43 wd_119 wc_119 (show decode code 714 = .ok (.invokevirtual 110, 3) from by decide +kernel), ?_⟩
  refine List.forall_mem_cons.mpr ⟨fun _ _ _ _ _ _ _ _ _ _ _ _ _ _ _ _ _ _ X => so_istore (k := 6) X (show decode code 717 = .ok (.istore 6, 2) from by decide +kernel), ?_⟩
  refine List.forall_mem_cons.mpr ⟨fun _ _ _ _ _ _ _ _ _ _ _ _ _ _ _ _ _ _ X => so_aload_n (k := 2) X (show decode code 719 = .ok (.aload_n 2, 1) from by decide +kernel), ?_⟩
  refine List.forall_mem_cons.mpr ⟨fun _ _ _ _ _ _ _ _ _ _ _ _ _ _ _ _ _ _ X => so_callV (i := 92) (cn := 9) (n := 0) X rfl rfl rfl wq_805 wq_806 wq_807 wq_43 wd_92 wc_92 (show decode code 720 = .ok (.invokevirtual 73, 3) from by decide +kernel), ?_⟩
  refine List.forall_mem_cons.mpr ⟨fun _ _ _ _ _ _ _ _ _ _ _ _ _ _ _ _ _ _ X => so_iload (k := 5) X (show decode code 723 = .ok (.iload 5, 2) from by decide +kernel), ?_⟩
  refine List.forall_mem_cons.mpr ⟨fun _ _ _ _ _ _ _ _ _ _ _ _ _ _ _ _ _ _ X => so_icmp_eq (off := 5) (tgt := 730) X (show decode code 725 = .ok (.if_icmp .eq 5, 3) from by decide +kernel) (by decide), ?_⟩
  refine List.forall_mem_cons.mpr ⟨fun _ _ _ _ _ _ _ _ _ _ _ _ _ _ _ _ _ _ X => so_iconst (n := 0) X (show decode code 728 = .ok (.iconst 0, 1) from by decide +kernel), ?_⟩
  refine List.forall_mem_cons.mpr ⟨fun _ _ _ _ _ _ _ _ _ _ _ _ _ _ _ _ _ _ X => so_zret X rfl (show decode code 729 = .ok (.ireturn, 1) from by decide +kernel), ?_⟩
  refine List.forall_mem_cons.mpr ⟨fun _ _ _ _ _ _ _ _ _ _ _ _ _ _ _ _ _ _ X => so_iload (k := 5) X (show decode code 730 = .ok (.iload 5, 2) from by decide +kernel), ?_⟩
  refine List.forall_mem_cons.mpr ⟨fun _ _ _ _ _ _ _ _ _ _ _ _ _ _ _ _ _ _ X => so_if_ne (off := 15) (tgt := 747) X (show decode code 732 = .ok (.ifCond .ne 15, 3) from by decide +kernel) (by decide), ?_⟩
  refine List.forall_mem_cons.mpr ⟨fun _ _ _ _ _ _ _ _ _ _ _ _ _ _ _ _ _ _ X => so_aload_n (k := 3) X (show decode code 735 = .ok (.aload_n 3, 1) from by decide +kernel), ?_⟩
  refine List.forall_mem_cons.mpr ⟨fun _ _ _ _ _ _ _ _ _ _ _ _ _ _ _ _ _ _ X => so_iconst (n := 0) X (show decode code 736 = .ok (.iconst 0, 1) from by decide +kernel), ?_⟩
  refine List.forall_mem_cons.mpr ⟨fun _ _ _ _ _ _ _ _ _ _ _ _ _ _ _ _ _ _ X => so_lald X (show decode code 737 = .ok (.laload, 1) from by decide +kernel), ?_⟩
  refine List.forall_mem_cons.mpr ⟨fun _ _ _ _ _ _ _ _ _ _ _ _ _ _ _ _ _ _ X => so_iload (k := 6) X (show decode code 738 = .ok (.iload 6, 2) from by decide +kernel), ?_⟩
  refine List.forall_mem_cons.mpr ⟨fun _ _ _ _ _ _ _ _ _ _ _ _ _ _ _ _ _ _ X => so_i2l X (show decode code 740 = .ok (.i2l, 1) from by decide +kernel), ?_⟩
  refine List.forall_mem_cons.mpr ⟨fun _ _ _ _ _ _ _ _ _ _ _ _ _ _ _ _ _ _ X => so_lcmp X (show decode code 741 = .ok (.lcmp, 1) from by decide +kernel), ?_⟩
  refine List.forall_mem_cons.mpr ⟨fun _ _ _ _ _ _ _ _ _ _ _ _ _ _ _ _ _ _ X => so_if_eq (off := 5) (tgt := 747) X (show decode code 742 = .ok (.ifCond .eq 5, 3) from by decide +kernel) (by decide), ?_⟩
  refine List.forall_mem_cons.mpr ⟨fun _ _ _ _ _ _ _ _ _ _ _ _ _ _ _ _ _ _ X => so_iconst (n := 0) X (show decode code 745 = .ok (.iconst 0, 1) from by decide +kernel), ?_⟩
  refine List.forall_mem_cons.mpr ⟨fun _ _ _ _ _ _ _ _ _ _ _ _ _ _ _ _ _ _ X => so_zret X rfl (show decode code 746 = .ok (.ireturn, 1) from by decide +kernel), ?_⟩
  refine List.forall_mem_cons.mpr ⟨fun _ _ _ _ _ _ _ _ _ _ _ _ _ _ _ _ _ _ X => so_goto (off := 251) (tgt := 998) X (show decode code 747 = .ok (.goto 251, 3) from by decide +kernel) (by decide), ?_⟩
  refine List.forall_mem_cons.mpr ⟨fun _ _ _ _ _ _ _ _ _ _ _ _ _ _ _ _ _ _ X => so_aload_n (k := 1) X (show decode code 750 = .ok (.aload_n 1, 1) from by decide +kernel), ?_⟩
  refine List.forall_mem_cons.mpr ⟨fun _ _ _ _ _ _ _ _ _ _ _ _ _ _ _ _ _ _ X => so_aload_n (k := 0) X (show decode code 751 = .ok (.aload_n 0, 1) from by decide +kernel), ?_⟩
  refine List.forall_mem_cons.mpr ⟨fun _ _ _ _ _ _ _ _ _ _ _ _ _ _ _ _ _ _ X => so_iload (k := 4) X (show decode code 752 = .ok (.iload 4, 2) from by decide +kernel), ?_⟩
  refine List.forall_mem_cons.mpr ⟨fun _ _ _ _ _ _ _ _ _ _ _ _ _ _ _ _ _ _ X => so_iconst (n := 1) X (show decode code 754 = .ok (.iconst 1, 1) from by decide +kernel), ?_⟩
  refine List.forall_mem_cons.mpr ⟨fun _ _ _ _ _ _ _ _ _ _ _ _ _ _ _ _ _ _ X => so_iadd X (show decode code 755 = .ok (.iadd, 1) from by decide +kernel), ?_⟩
  refine List.forall_mem_cons.mpr ⟨fun _ _ _ _ _ _ _ _ _ _ _ _ _ _ _ _ _ _ X => so_sld X hL (show decode code 756 = .ok (.iaload, 1) from by decide +kernel), ?_⟩
  refine List.forall_mem_cons.mpr ⟨fun _ _ _ _ _ _ _ _ _ _ _ _ _ _ _ _ _ _ X => so_aload_n (k := 3) X (show decode code 757 = .ok (.aload_n 3, 1) from by decide +kernel), ?_⟩
  refine List.forall_mem_cons.mpr ⟨fun _ _ _ _ _ _ _ _ _ _ _ _ _ _ _ _ _ _ X => so_callSW (i := 137) (n := 3) X rfl wq_662 wq_663 wq_32 wd_137 wc_137 (show decode code 758 = .ok (.invokestatic 111, 3) from by decide +kernel), ?_⟩
  refine List.forall_mem_cons.mpr ⟨fun _ _ _ _ _ _ _ _ _ _ _ _ _ _ _ _ _ _ X => so_istore (k := 5) X (show decode code 761 = .ok (.istore 5, 2) from by decide +kernel), ?_⟩
  refine List.forall_mem_cons.mpr ⟨fun _ _ _ _ _ _ _ _ _ _ _ _ _ _ _ _ _ _ X => so_aload_n (k := 2) X (show decode code 763 = .ok (.aload_n 2, 1) from by decide +kernel), ?_⟩
  refine List.forall_mem_cons.mpr ⟨fun _ _ _ _ _ _ _ _ _ _ _ _ _ _ _ _ _ _ X => so_aload_n (k := 0) X (show decode code 764 = .ok (.aload_n 0, 1) from by decide +kernel), ?_⟩
  refine List.forall_mem_cons.mpr ⟨fun _ _ _ _ _ _ _ _ _ _ _ _ _ _ _ _ _ _ X => so_iload (k := 4) X (show decode code 765 = .ok (.iload 4, 2) from by decide +kernel), ?_⟩
  refine List.forall_mem_cons.mpr ⟨fun _ _ _ _ _ _ _ _ _ _ _ _ _ _ _ _ _ _ X => so_iconst (n := 1) X (show decode code 767 = .ok (.iconst 1, 1) from by decide +kernel), ?_⟩
  refine List.forall_mem_cons.mpr ⟨fun _ _ _ _ _ _ _ _ _ _ _ _ _ _ _ _ _ _ X => so_iadd X (show decode code 768 = .ok (.iadd, 1) from by decide +kernel), ?_⟩
  refine List.forall_mem_cons.mpr ⟨fun _ _ _ _ _ _ _ _ _ _ _ _ _ _ _ _ _ _ X => so_sld X hL (show decode code 769 = .ok (.iaload, 1) from by decide +kernel), ?_⟩
  refine List.forall_mem_cons.mpr ⟨fun _ _ _ _ _ _ _ _ _ _ _ _ _ _ _ _ _ _ X => so_callV (i := 121) (cn := 9) (n := 1) X rfl rfl rfl wq_915 wq_916 wq_917 wq_43 wd_121 wc_121 (show decode code 770 = .ok (.invokevirtual 113, 3) from by decide +kernel), ?_⟩
  refine List.forall_mem_cons.mpr ⟨fun _ _ _ _ _ _ _ _ _ _ _ _ _ _ _ _ _ _ X => so_lstore (k := 6) X (show decode code 773 = .ok (.lstore 6, 2) from by decide +kernel), ?_⟩
  refine List.forall_mem_cons.mpr ⟨fun _ _ _ _ _ _ _ _ _ _ _ _ _ _ _ _ _ _ X => so_aload_n (k := 2) X (show decode code 775 = .ok (.aload_n 2, 1) from by decide +kernel), ?_⟩
  refine List.forall_mem_cons.mpr ⟨fun _ _ _ _ _ _ _ _ _ _ _ _ _ _ _ _ _ _ X => so_callV (i := 92) (cn := 9) (n := 0) X rfl rfl rfl wq_805 wq_806 wq_807 wq_43 wd_92 wc_92 (show decode code 776 = .ok (.invokevirtual 73, 3) from by decide +kernel), ?_⟩
  refine List.forall_mem_cons.mpr ⟨fun _ _ _ _ _ _ _ _ _ _ _ _ _ _ _ _ _ _ X => so_iload (k := 5) X (show decode code 779 = .ok (.iload 5, 2) from by decide +kernel), ?_⟩
  refine List.forall_mem_cons.mpr ⟨fun _ _ _ _ _ _ _ _ _ _ _ _ _ _ _ _ _ _ X => so_icmp_eq (off := 5) (tgt := 786) X (show decode code 781 = .ok (.if_icmp .eq 5, 3) from by decide +kernel) (by decide), ?_⟩
  refine List.forall_mem_cons.mpr ⟨fun _ _ _ _ _ _ _ _ _ _ _ _ _ _ _ _ _ _ X => so_iconst (n := 0) X (show decode code 784 = .ok (.iconst 0, 1) from by decide +kernel), ?_⟩
  refine List.forall_mem_cons.mpr ⟨fun _ _ _ _ _ _ _ _ _ _ _ _ _ _ _ _ _ _ X => so_zret X rfl (show decode code 785 = .ok (.ireturn, 1) from by decide +kernel), ?_⟩
  refine List.forall_mem_cons.mpr ⟨fun _ _ _ _ _ _ _ _ _ _ _ _ _ _ _ _ _ _ X => so_iload (k := 5) X (show decode code 786 = .ok (.iload 5, 2) from by decide +kernel), ?_⟩
  refine List.forall_mem_cons.mpr ⟨fun _ _ _ _ _ _ _ _ _ _ _ _ _ _ _ _ _ _ X => so_if_ne (off := 14) (tgt := 802) X (show decode code 788 = .ok (.ifCond .ne 14, 3) from by decide +kernel) (by decide), ?_⟩
  refine List.forall_mem_cons.mpr ⟨fun _ _ _ _ _ _ _ _ _ _ _ _ _ _ _ _ _ _ X => so_aload_n (k := 3) X (show decode code 791 = .ok (.aload_n 3, 1) from by decide +kernel), ?_⟩
  refine List.forall_mem_cons.mpr ⟨fun _ _ _ _ _ _ _ _ _ _ _ _ _ _ _ _ _ _ X => so_iconst (n := 0) X (show decode code 792 = .ok (.iconst 0, 1) from by decide +kernel), ?_⟩
  refine List.forall_mem_cons.mpr ⟨fun _ _ _ _ _ _ _ _ _ _ _ _ _ _ _ _ _ _ X => so_lald X (show decode code 793 = .ok (.laload, 1) from by decide +kernel), ?_⟩
  refine List.forall_mem_cons.mpr ⟨fun _ _ _ _ _ _ _ _ _ _ _ _ _ _ _ _ _ _ X => so_lload (k := 6) X (show decode code 794 = .ok (.lload 6, 2) from by decide +kernel), ?_⟩
  refine List.forall_mem_cons.mpr ⟨fun _ _ _ _ _ _ _ _ _ _ _ _ _ _ _ _ _ _ X => so_lcmp X (show decode code 796 = .ok (.lcmp, 1) from by decide +kernel), ?_⟩
  refine List.forall_mem_cons.mpr ⟨fun _ _ _ _ _ _ _ _ _ _ _ _ _ _ _ _ _ _ X => so_if_eq (off := 5) (tgt := 802) X (show decode code 797 = .ok (.ifCond .eq 5, 3) from by decide +kernel) (by decide), ?_⟩
  refine List.forall_mem_cons.mpr ⟨fun _ _ _ _ _ _ _ _ _ _ _ _ _ _ _ _ _ _ X => so_iconst (n := 0) X (show decode code 800 = .ok (.iconst 0, 1) from by decide +kernel), ?_⟩
  refine List.forall_mem_cons.mpr ⟨fun _ _ _ _ _ _ _ _ _ _ _ _ _ _ _ _ _ _ X => so_zret X rfl (show decode code 801 = .ok (.ireturn, 1) from by decide +kernel), ?_⟩
  refine List.forall_mem_cons.mpr ⟨fun _ _ _ _ _ _ _ _ _ _ _ _ _ _ _ _ _ _ X => so_goto (off := 196) (tgt := 998) X (show decode code 802 = .ok (.goto 196, 3) from by decide +kernel) (by decide), ?_⟩
  refine List.forall_mem_cons.mpr ⟨fun _ _ _ _ _ _ _ _ _ _ _ _ _ _ _ _ _ _ X => so_aload_n (k := 1) X (show decode code 805 = .ok (.aload_n 1, 1) from by decide +kernel), ?_⟩
  refine List.forall_mem_cons.mpr ⟨fun _ _ _ _ _ _ _ _ _ _ _ _ _ _ _ _ _ _ X => so_aload_n (k := 3) X (show decode code 806 = .ok (.aload_n 3, 1) from by decide +kernel), ?_⟩
  refine List.forall_mem_cons.mpr ⟨fun _ _ _ _ _ _ _ _ _ _ _ _ _ _ _ _ _ _ X => so_callSW (i := 138) (n := 2) X rfl wq_678 wq_679 wq_32 wd_138 wc_138 (show decode code 807 = .ok (.invokestatic 114, 3) from by decide +kernel), ?_⟩
  refine List.forall_mem_cons.mpr ⟨fun _ _ _ _ _ _ _ _ _ _ _ _ _ _ _ _ _ _ X => so_istore (k := 5) X (show decode code 810 = .ok (.istore 5, 2) from by decide +kernel), ?_⟩
  refine List.forall_mem_cons.mpr ⟨fun _ _ _ _ _ _ _ _ _ _ _ _ _ _ _ _ _ _ X => so_aload_n (k := 2) X (show decode code 812 = .ok (.aload_n 2, 1) from by decide +kernel), ?_⟩
  refine List.forall_mem_cons.mpr ⟨fun _ _ _ _ _ _ _ _ _ _ _ _ _ _ _ _ _ _ X => so_callV (i := 122) (cn := 9) (n := 0) X rfl rfl rfl wq_923 wq_924 wq_925 wq_43 wd_122 wc_122 (show decode code 813 = .ok (.invokevirtual 116, 3) from by decide +kernel), ?_⟩
  refine List.forall_mem_cons.mpr ⟨fun _ _ _ _ _ _ _ _ _ _ _ _ _ _ _ _ _ _ X => so_istore (k := 6) X (show decode code 816 = .ok (.istore 6, 2) from by decide +kernel), ?_⟩
  refine List.forall_mem_cons.mpr ⟨fun _ _ _ _ _ _ _ _ _ _ _ _ _ _ _ _ _ _ X => so_aload_n (k := 2) X (show decode code 818 = .ok (.aload_n 2, 1) from by decide +kernel), ?_⟩
  refine List.forall_mem_cons.mpr ⟨fun _ _ _ _ _ _ _ _ _ _ _ _ _ _ _ _ _ _ X => so_callV (i := 92) (cn := 9) (n := 0) X rfl rfl rfl wq_805 wq_806 wq_807 wq_43 wd_92 wc_92 (show decode code 819 = .ok (.invokevirtual 73, 3) from by decide +kernel), ?_⟩
  refine List.forall_mem_cons.mpr ⟨fun _ _ _ _ _ _ _ _ _ _ _ _ _ _ _ _ _ _ X => so_iload (k := 5) X (show decode code 822 = .ok (.iload 5, 2) from by decide +kernel), ?_⟩
  refine List.forall_mem_cons.mpr ⟨fun _ _ _ _ _ _ _ _ _ _ _ _ _ _ _ _ _ _ X => so_icmp_eq (off := 5) (tgt := 829) X (show decode code 824 = .ok (.if_icmp .eq 5, 3) from by decide +kernel) (by decide), ?_⟩
  refine List.forall_mem_cons.mpr ⟨fun _ _ _ _ _ _ _ _ _ _ _ _ _ _ _ _ _ _ X => so_iconst (n := 0) X (show decode code 827 = .ok (.iconst 0, 1) from by decide +kernel), ?_⟩
  refine List.forall_mem_cons.mpr ⟨fun _ _ _ _ _ _ _ _ _ _ _ _ _ _ _ _ _ _ X => so_zret X rfl (show decode code 828 = .ok (.ireturn, 1) from by decide +kernel), ?_⟩
  refine List.forall_mem_cons.mpr ⟨fun _ _ _ _ _ _ _ _ _ _ _ _ _ _ _ _ _ _ X => so_iload (k := 5) X (show decode code 829 = .ok (.iload 5, 2) from by decide +kernel), ?_⟩
  refine List.forall_mem_cons.mpr ⟨fun _ _ _ _ _ _ _ _ _ _ _ _ _ _ _ _ _ _ X => so_if_ne (off := 15) (tgt := 846) X (show decode code 831 = .ok (.ifCond .ne 15, 3) from by decide +kernel) (by decide), ?_⟩
  refine List.forall_mem_cons.mpr ⟨fun _ _ _ _ _ _ _ _ _ _ _ _ _ _ _ _ _ _ X => so_aload_n (k := 3) X (show decode code 834 = .ok (.aload_n 3, 1) from by decide +kernel), ?_⟩
  refine List.forall_mem_cons.mpr ⟨fun _ _ _ _ _ _ _ _ _ _ _ _ _ _ _ _ _ _ X => so_iconst (n := 0) X (show decode code 835 = .ok (.iconst 0, 1) from by decide +kernel), ?_⟩
  refine List.forall_mem_cons.mpr ⟨fun _ _ _ _ _ _ _ _ _ _ _ _ _ _ _ _ _ _ X => so_lald X (show decode code 836 = .ok (.laload, 1) from by decide +kernel), ?_⟩
  refine List.forall_mem_cons.mpr ⟨fun _ _ _ _ _ _ _ _ _ _ _ _ _ _ _ _ _ _ X => so_iload (k := 6) X (show decode code 837 = .ok (.iload 6, 2) from by decide +kernel), ?_⟩
  refine List.forall_mem_cons.mpr ⟨fun _ _ _ _ _ _ _ _ _ _ _ _ _ _ _ _ _ _ X => so_i2l X (show decode code 839 = .ok (.i2l, 1) from by decide +kernel), ?_⟩
  refine List.forall_mem_cons.mpr ⟨fun _ _ _ _ _ _ _ _ _ _ _ _ _ _ _ _ _ _ X => so_lcmp X (show decode code 840 = .ok (.lcmp, 1) from by decide +kernel), ?_⟩
  refine List.forall_mem_cons.mpr ⟨fun _ _ _ _ _ _ _ _ _ _ _ _ _ _ _ _ _ _ X => so_if_eq (off := 5) (tgt := 846) X (show decode code 841 = .ok (.ifCond .eq 5, 3) from by decide +kernel) (by decide), ?_⟩
  refine List.forall_mem_cons.mpr ⟨fun _ _ _ _ _ _ _ _ _ _ _ _ _ _ _ _ _ _ X => so_iconst (n := 0) X (show decode code 844 = .ok (.iconst 0, 1) from by decide +kernel), ?_⟩
  refine List.forall_mem_cons.mpr ⟨fun _ _ _ _ _ _ _ _ _ _ _ _ _ _ _ _ _ _ X => so_zret X rfl (show decode code 845 = .ok (.ireturn, 1) from by decide +kernel), ?_⟩
  refine List.forall_mem_cons.mpr ⟨fun _ _ _ _ _ _ _ _ _ _ _ _ _ _ _ _ _ _ X => so_goto (off := 152) (tgt := 998) X (show decode code 846 = .ok (.goto 152, 3) from by decide +kernel) (by decide), ?_⟩
  refine List.forall_mem_cons.mpr ⟨fun _ _ _ _ _ _ _ _ _ _ _ _ _ _ _ _ _ _ X => so_aload_n (k := 1) X (show decode code 849 = .ok (.aload_n 1, 1) from by decide +kernel), ?_⟩
  refine List.forall_mem_cons.mpr ⟨fun _ _ _ _ _ _ _ _ _ _ _ _ _ _ _ _ _ _ X => so_aload_n (k := 0) X (show decode code 850 = .ok (.aload_n 0, 1) from by decide +kernel), ?_⟩
  refine List.forall_mem_cons.mpr ⟨fun _ _ _ _ _ _ _ _ _ _ _ _ _ _ _ _ _ _ X => so_iload (k := 4) X (show decode code 851 = .ok (.iload 4, 2) from by decide +kernel), ?_⟩
  refine List.forall_mem_cons.mpr ⟨fun _ _ _ _ _ _ _ _ _ _ _ _ _ _ _ _ _ _ X => so_iconst (n := 1) X (show decode code 853 = .ok (.iconst 1, 1) from by decide +kernel), ?_⟩
  refine List.forall_mem_cons.mpr ⟨fun _ _ _ _ _ _ _ _ _ _ _ _ _ _ _ _ _ _ X => so_iadd X (show decode code 854 = .ok (.iadd, 1) from by decide +kernel), ?_⟩
  refine List.forall_mem_cons.mpr ⟨fun _ _ _ _ _ _ _ _ _ _ _ _ _ _ _ _ _ _ X => so_sld X hL (show decode code 855 = .ok (.iaload, 1) from by decide +kernel), ?_⟩
  refine List.forall_mem_cons.mpr ⟨fun _ _ _ _ _ _ _ _ _ _ _ _ _ _ _ _ _ _ X => so_aload_n (k := 0) X (show decode code 856 = .ok (.aload_n 0, 1) from by decide +kernel), ?_⟩
  refine List.forall_mem_cons.mpr ⟨fun _ _ _ _ _ _ _ _ _ _ _ _ _ _ _ _ _ _ X => so_iload (k := 4) X (show decode code 857 = .ok (.iload 4, 2) from by decide +kernel), ?_⟩
  refine List.forall_mem_cons.mpr ⟨fun _ _ _ _ _ _ _ _ _ _ _ _ _ _ _ _ _ _ X => so_iconst (n := 2) X (show decode code 859 = .ok (.iconst 2, 1) from by decide +kernel), ?_⟩
  refine List.forall_mem_cons.mpr ⟨fun _ _ _ _ _ _ _ _ _ _ _ _ _ _ _ _ _ _ X => so_iadd X (show decode code 860 = .ok (.iadd, 1) from by decide +kernel), ?_⟩
  refine List.forall_mem_cons.mpr ⟨fun _ _ _ _ _ _ _ _ _ _ _ _ _ _ _ _ _ _ X => so_sld X hL (show decode code 861 = .ok (.iaload, 1) from by decide +kernel), ?_⟩
  refine List.forall_mem_cons.mpr ⟨fun _ _ _ _ _ _ _ _ _ _ _ _ _ _ _ _ _ _ X => so_aload_n (k := 3) X (show decode code 862 = .ok (.aload_n 3, 1) from by decide +kernel), ?_⟩
  refine List.forall_mem_cons.mpr ⟨fun _ _ _ _ _ _ _ _ _ _ _ _ _ _ _ _ _ _ X => so_callSW (i := 139) (n := 4) X rfl wq_689 wq_690 wq_32 wd_139 wc_139 (show decode code 863 = .ok (.invokestatic 117, 3) from by decide +kernel), ?_⟩
  refine List.forall_mem_cons.mpr ⟨fun _ _ _ _ _ _ _ _ _ _ _ _ _ _ _ _ _ _ X => so_istore (k := 5) X (show decode code 866 = .ok (.istore 5, 2) from by decide +kernel), ?_⟩
  refine List.forall_mem_cons.mpr ⟨fun _ _ _ _ _ _ _ _ _ _ _ _ _ _ _ _ _ _ X => so_aload_n (k := 2) X (show decode code 868 = .ok (.aload_n 2, 1) from by decide +kernel), ?_⟩
  refine List.forall_mem_cons.mpr ⟨fun _ _ _ _ _ _ _ _ _ _ _ _ _ _ _ _ _ _ X => so_aload_n (k := 0) X (show decode code 869 = .ok (.aload_n 0, 1) from by decide +kernel), ?_⟩
  refine List.forall_mem_cons.mpr ⟨fun _ _ _ _ _ _ _ _ _ _ _ _ _ _ _ _ _ _ X => so_iload (k := 4) X (show decode code 870 = .ok (.iload 4, 2) from by decide +kernel), ?_⟩
  refine List.forall_mem_cons.mpr ⟨fun _ _ _ _ _ _ _ _ _ _ _ _ _ _ _ _ _ _ X => so_iconst (n := 1) X (show decode code 872 = .ok (.iconst 1, 1) from by decide +kernel), ?_⟩
  refine List.forall_mem_cons.mpr ⟨fun _ _ _ _ _ _ _ _ _ _ _ _ _ _ _ _ _ _ X => so_iadd X (show decode code 873 = .ok (.iadd, 1) from by decide +kernel), ?_⟩
  refine List.forall_mem_cons.mpr ⟨fun _ _ _ _ _ _ _ _ _ _ _ _ _ _ _ _ _ _ X => so_sld X hL (show decode code 874 = .ok (.iaload, 1) from by decide +kernel), ?_⟩
  refine List.forall_mem_cons.mpr ⟨fun _ _ _ _ _ _ _ _ _ _ _ _ _ _ _ _ _ _ X => so_aload_n (k := 0) X (show decode code 875 = .ok (.aload_n 0, 1) from by decide +kernel), ?_⟩
  refine List.forall_mem_cons.mpr ⟨fun _ _ _ _ _ _ _ _ _ _ _ _ _ _ _ _ _ _ X => so_iload (k := 4) X (show decode code 876 = .ok (.iload 4, 2) from by decide +kernel), ?_⟩
  refine List.forall_mem_cons.mpr ⟨fun _ _ _ _ _ _ _ _ _ _ _ _ _ _ _ _ _ _ X => so_iconst (n := 2) X (show decode code 878 = .ok (.iconst 2, 1) from by decide +kernel), ?_⟩
  refine List.forall_mem_cons.mpr ⟨fun _ _ _ _ _ _ _ _ _ _ _ _ _ _ _ _ _ _ X => so_iadd X (show decode code 879 = .ok (.iadd, 1) from by decide +kernel), ?_⟩
  refine List.forall_mem_cons.mpr ⟨fun _ _ _ _ _ _ _ _ _ _ _ _ _ _ _ _ _ _ X => so_sld X hL (show decode code 880 = .ok (.iaload, 1) from by decide +kernel), ?_⟩
  refine List.forall_mem_cons.mpr ⟨fun _ _ _ _ _ _ _ _ _ _ _ _ _ _ _ _ _ _ X => so_callV (i := 124) (cn := 9) (n := 2) X rfl rfl rfl wq_929 wq_930 wq_931 wq_43 wd_124 wc_124 (show decode code 881 = .ok (.invokevirtual 119, 3) from by decide +kernel), ?_⟩
  refine List.forall_mem_cons.mpr ⟨fun _ _ _ _ _ _ _ _ _ _ _ _ _ _ _ _ _ _ X => so_istore (k := 6) X (show decode code 884 = .ok (.istore 6, 2) from by decide +kernel), ?_⟩
  refine List.forall_mem_cons.mpr ⟨fun _ _ _ _ _ _ _ _ _ _ _ _ _ _ _ _ _ _ X => so_aload_n (k := 2) X (show decode code 886 = .ok (.aload_n 2, 1) from by decide +kernel), ?_⟩
  refine List.forall_mem_cons.mpr ⟨fun _ _ _ _ _ _ _ _ _ _ _ _ _ _ _ _ _ _ X => so_callV (i := 92) (cn := 9) (n := 0) X rfl rfl rfl wq_805 wq_806 wq_807 wq_43 wd_92 wc_92 (show decode code 887 = .ok (.invokevirtual 73, 3) from by decide +kernel), ?_⟩
  refine List.forall_mem_cons.mpr ⟨fun _ _ _ _ _ _ _ _ _ _ _ _ _ _ _ _ _ _ X => so_iload (k := 5) X (show decode code 890 = .ok (.iload 5, 2) from by decide +kernel), ?_⟩
  refine List.forall_mem_cons.mpr ⟨fun _ _ _ _ _ _ _ _ _ _ _ _ _ _ _ _ _ _ X => so_icmp_eq (off := 5) (tgt := 897) X (show decode code 892 = .ok (.if_icmp .eq 5, 3) from by decide +kernel) (by decide), ?_⟩
  refine List.forall_mem_cons.mpr ⟨fun _ _ _ _ _ _ _ _ _ _ _ _ _ _ _ _ _ _ X => so_iconst (n := 0) X (show decode code 895 = .ok (.iconst 0, 1) from by decide +kernel), ?_⟩
  refine List.forall_mem_cons.mpr ⟨fun _ _ _ _ _ _ _ _ _ _ _ _ _ _ _ _ _ _ X => so_zret X rfl (show decode code 896 = .ok (.ireturn, 1) from by decide +kernel), ?_⟩
  refine List.forall_mem_cons.mpr ⟨fun _ _ _ _ _ _ _ _ _ _ _ _ _ _ _ _ _ _ X => so_iload (k := 5) X (show decode code 897 = .ok (.iload 5, 2) from by decide +kernel), ?_⟩
  refine List.forall_mem_cons.mpr ⟨fun _ _ _ _ _ _ _ _ _ _ _ _ _ _ _ _ _ _ X => so_if_ne (off := 15) (tgt := 914) X (show decode code 899 = .ok (.ifCond .ne 15, 3) from by decide +kernel) (by decide), ?_⟩
  refine List.forall_mem_cons.mpr ⟨fun _ _ _ _ _ _ _ _ _ _ _ _ _ _ _ _ _ _ X => so_aload_n (k := 3) X (show decode code 902 = .ok (.aload_n 3, 1) from by decide +kernel), ?_⟩
  refine List.forall_mem_cons.mpr ⟨fun _ _ _ _ _ _ _ _ _ _ _ _ _ _ _ _ _ _ X => so_iconst (n := 0) X (show decode code 903 = .ok (.iconst 0, 1) from by decide +kernel), ?_⟩
  refine List.forall_mem_cons.mpr ⟨fun _ _ _ _ _ _ _ _ _ _ _ _ _ _ _ _ _ _ X => so_lald X (show decode code 904 = .ok (.laload, 1) from by decide +kernel), ?_⟩
  refine List.forall_mem_cons.mpr ⟨fun _ _ _ _ _ _ _ _ _ _ _ _ _ _ _ _ _ _ X => so_iload (k := 6) X (show decode code 905 = .ok (.iload 6, 2) from by decide +kernel), ?_⟩
  refine List.forall_mem_cons.mpr ⟨fun _ _ _ _ _ _ _ _ _ _ _ _ _ _ _ _ _ _ X => so_i2l X (show decode code 907 = .ok (.i2l, 1) from by decide +kernel), ?_⟩
  refine List.forall_mem_cons.mpr ⟨fun _ _ _ _ _ _ _ _ _ _ _ _ _ _ _ _ _ _ X => so_lcmp X (show decode code 908 = .ok (.lcmp, 1) from by decide +kernel), ?_⟩
  refine List.forall_mem_cons.mpr ⟨fun _ _ _ _ _ _ _ _ _ _ _ _ _ _ _ _ _ _ X => so_if_eq (off := 5) (tgt := 914) X (show decode code 909 = .ok (.ifCond .eq 5, 3) from by decide +kernel) (by decide), ?_⟩
  refine List.forall_mem_cons.mpr ⟨fun _ _ _ _ _ _ _ _ _ _ _ _ _ _ _ _ _ _ X => so_iconst (n := 0) X (show decode code 912 = .ok (.iconst 0, 1) from by decide +kernel), ?_⟩
  refine List.forall_mem_cons.mpr ⟨fun _ _ _ _ _ _ _ _ _ _ _ _ _ _ _ _ _ _ X => so_zret X rfl (show decode code 913 = .ok (.ireturn, 1) from by decide +kernel), ?_⟩
  refine List.forall_mem_cons.mpr ⟨fun _ _ _ _ _ _ _ _ _ _ _ _ _ _ _ _ _ _ X => so_goto (off := 84) (tgt := 998) X (show decode code 914 = .ok (.goto 84, 3) from by decide +kernel) (by decide), ?_⟩
  refine List.forall_mem_cons.mpr ⟨fun _ _ _ _ _ _ _ _ _ _ _ _ _ _ _ _ _ _ X => so_aload_n (k := 1) X (show decode code 917 = .ok (.aload_n 1, 1) from by decide +kernel), ?_⟩
  refine List.forall_mem_cons.mpr ⟨fun _ _ _ _ _ _ _ _ _ _ _ _ _ _ _ _ _ _ X => so_aload_n (k := 0) X (show decode code 918 = .ok (.aload_n 0, 1) from by decide +kernel), ?_⟩
  refine List.forall_mem_cons.mpr ⟨fun _ _ _ _ _ _ _ _ _ _ _ _ _ _ _ _ _ _ X => so_iload (k := 4) X (show decode code 919 = .ok (.iload 4, 2) from by decide +kernel), ?_⟩
  refine List.forall_mem_cons.mpr ⟨fun _ _ _ _ _ _ _ _ _ _ _ _ _ _ _ _ _ _ X => so_iconst (n := 1) X (show decode code 921 = .ok (.iconst 1, 1) from by decide +kernel), ?_⟩
  refine List.forall_mem_cons.mpr ⟨fun _ _ _ _ _ _ _ _ _ _ _ _ _ _ _ _ _ _ X => so_iadd X (show decode code 922 = .ok (.iadd, 1) from by decide +kernel), ?_⟩
  refine List.forall_mem_cons.mpr ⟨fun _ _ _ _ _ _ _ _ _ _ _ _ _ _ _ _ _ _ X => so_sld X hL (show decode code 923 = .ok (.iaload, 1) from by decide +kernel), ?_⟩
  refine List.forall_mem_cons.mpr ⟨fun _ _ _ _ _ _ _ _ _ _ _ _ _ _ _ _ _ _ X => so_aload_n (k := 0) X (show decode code 924 = .ok (.aload_n 0, 1) from by decide +kernel), ?_⟩
  refine List.forall_mem_cons.mpr ⟨fun _ _ _ _ _ _ _ _ _ _ _ _ _ _ _ _ _ _ X => so_iload (k := 4) X (show decode code 925 = .ok (.iload 4, 2) from by decide +kernel), ?_⟩
  refine List.forall_mem_cons.mpr ⟨fun _ _ _ _ _ _ _ _ _ _ _ _ _ _ _ _ _ _ X => so_iconst (n := 2) X (show decode code 927 = .ok (.iconst 2, 1) from by decide +kernel), ?_⟩
  refine List.forall_mem_cons.mpr ⟨fun _ _ _ _ _ _ _ _ _ _ _ _ _ _ _ _ _ _ X => so_iadd X (show decode code 928 = .ok (.iadd, 1) from by decide +kernel), ?_⟩
  refine List.forall_mem_cons.mpr ⟨fun _ _ _ _ _ _ _ _ _ _ _ _ _ _ _ _ _ _ X => so_sld X hL (show decode code 929 = .ok (.iaload, 1) from by decide +kernel), ?_⟩
  refine List.forall_mem_cons.mpr ⟨fun _ _ _ _ _ _ _ _ _ _ _ _ _ _ _ _ _ _ X => so_aload_n (k := 3) X (show decode code 930 = .ok (.aload_n 3, 1) from by decide +kernel), ?_⟩
  refine List.forall_mem_cons.mpr ⟨fun _ _ _ _ _ _ _ _ _ _ _ _ _ _ _ _ _ _ X => so_callSW (i := 140) (n := 4) X rfl wq_724 wq_725 wq_32 wd_140 wc_140 (show decode code 931 = .ok (.invokestatic 120, 3) from by decide +kernel), ?_⟩
  refine List.forall_mem_cons.mpr ⟨fun _ _ _ _ _ _ _ _ _ _ _ _ _ _ _ _ _ _ X => so_istore (k := 5) X (show decode code 934 = .ok (.istore 5, 2) from by decide +kernel), ?_⟩
  refine List.forall_mem_cons.mpr ⟨fun _ _ _ _ _ _ _ _ _ _ _ _ _ _ _ _ _ _ X => so_aload_n (k := 2) X (show decode code 936 = .ok (.aload_n 2, 1) from by decide +kernel), ?_⟩
  refine List.forall_mem_cons.mpr ⟨fun _ _ _ _ _ _ _ _ _ _ _ _ _ _ _ _ _ _ X => so_aload_n (k := 0) X (show decode code 937 = .ok (.aload_n 0, 1) from by decide +kernel), ?_⟩
  refine List.forall_mem_cons.mpr ⟨fun _ _ _ _ _ _ _ _ _ _ _ _ _ _ _ _ _ _ X => so_iload (k := 4) X (show decode code 938 = .ok (.iload 4, 2) from by decide +kernel), ?_⟩
  refine List.forall_mem_cons.mpr ⟨fun _ _ _ _ _ _ _ _ _ _ _ _ _ _ _ _ _ _ X => so_iconst (n := 1) X (show decode code 940 = .ok (.iconst 1, 1) from by decide +kernel), ?_⟩
  refine List.forall_mem_cons.mpr ⟨fun _ _ _ _ _ _ _ _ _ _ _ _ _ _ _ _ _ _ X => so_iadd X (show decode code 941 = .ok (.iadd, 1) from by decide +kernel), ?_⟩
  refine List.forall_mem_cons.mpr ⟨fun _ _ _ _ _ _ _ _ _ _ _ _ _ _ _ _ _ _ X => so_sld X hL (show decode code 942 = .ok (.iaload, 1) from by decide +kernel), ?_⟩
  refine List.forall_mem_cons.mpr ⟨fun _ _ _ _ _ _ _ _ _ _ _ _ _ _ _ _ _ _ X => so_aload_n (k := 0) X (show decode code 943 = .ok (.aload_n 0, 1) from by decide +kernel), ?_⟩
  refine List.forall_mem_cons.mpr ⟨fun _ _ _ _ _ _ _ _ _ _ _ _ _ _ _ _ _ _ X => so_iload (k := 4) X (show decode code 944 = .ok (.iload 4, 2) from by decide +kernel), ?_⟩
  refine List.forall_mem_cons.mpr ⟨fun _ _ _ _ _ _ _ _ _ _ _ _ _ _ _ _ _ _ X => so_iconst (n := 2) X (show decode code 946 = .ok (.iconst 2, 1) from by decide +kernel), ?_⟩
  refine List.forall_mem_cons.mpr ⟨fun _ _ _ _ _ _ _ _ _ _ _ _ _ _ _ _ _ _ X => so_iadd X (show decode code 947 = .ok (.iadd, 1) from by decide +kernel), ?_⟩
  refine List.forall_mem_cons.mpr ⟨fun _ _ _ _ _ _ _ _ _ _ _ _ _ _ _ _ _ _ X => so_sld X hL (show decode code 948 = .ok (.iaload, 1) from by decide +kernel), ?_⟩
  refine List.forall_mem_cons.mpr ⟨fun _ _ _ _ _ _ _ _ _ _ _ _ _ _ _ _ _ _ X => so_callV (i := 125) (cn := 9) (n := 2) X rfl rfl rfl wq_938 wq_939 wq_940 wq_43 wd_125 wc_125 (show decode code 949 = .ok (.invokevirtual 122, 3) from by decide +kernel), ?_⟩
  refine List.forall_mem_cons.mpr ⟨fun _ _ _ _ _ _ _ _ _ _ _ _ _ _ _ _ _ _ X => so_istore (k := 6) X (show decode code 952 = .ok (.istore 6, 2) from by decide +kernel), ?_⟩
  refine List.forall_mem_cons.mpr ⟨fun _ _ _ _ _ _ _ _ _ _ _ _ _ _ _ _ _ _ X => so_aload_n (k := 2) X (show decode code 954 = .ok (.aload_n 2, 1) from by decide +kernel), ?_⟩
  refine List.forall_mem_cons.mpr ⟨fun _ _ _ _ _ _ _ _ _ _ _ _ _ _ _ _ _ _ X => so_callV (i := 92) (cn := 9) (n := 0) X rfl rfl rfl wq_805 wq_806 wq_807 wq_43 wd_92 wc_92 (show decode code 955 = .ok (.invokevirtual 73, 3) from by decide +kernel), ?_⟩
  refine List.forall_mem_cons.mpr ⟨fun _ _ _ _ _ _ _ _ _ _ _ _ _ _ _ _ _ _ X => so_iload (k := 5) X (show decode code 958 = .ok (.iload 5, 2) from by decide +kernel), ?_⟩
  refine List.forall_mem_cons.mpr ⟨fun _ _ _ _ _ _ _ _ _ _ _ _ _ _ _ _ _ _ X => so_icmp_eq (off := 5) (tgt := 965) X (show decode code 960 = .ok (.if_icmp .eq 5, 3) from by decide +kernel) (by decide), ?_⟩
  refine List.forall_mem_cons.mpr ⟨fun _ _ _ _ _ _ _ _ _ _ _ _ _ _ _ _ _ _ X => so_iconst (n := 0) X (show decode code 963 = .ok (.iconst 0, 1) from by decide +kernel), ?_⟩
  refine List.forall_mem_cons.mpr ⟨fun _ _ _ _ _ _ _ _ _ _ _ _ _ _ _ _ _ _ X => so_zret X rfl (show decode code 964 = .ok (.ireturn, 1) from by decide +kernel), ?_⟩
  refine List.forall_mem_cons.mpr ⟨fun _ _ _ _ _ _ _ _ _ _ _ _ _ _ _ _ _ _ X => so_iload (k := 5) X (show decode code 965 = .ok (.iload 5, 2) from by decide +kernel), ?_⟩
  refine List.forall_mem_cons.mpr ⟨fun _ _ _ _ _ _ _ _ _ _ _ _ _ _ _ _ _ _ X => so_if_ne (off := 15) (tgt := 982) X (show decode code 967 = .ok (.ifCond .ne 15, 3) from by decide +kernel) (by decide), ?_⟩
  refine List.forall_mem_cons.mpr ⟨fun _ _ _ _ _ _ _ _ _ _ _ _ _ _ _ _ _ _ X => so_aload_n (k := 3) X (show decode code 970 = .ok (.aload_n 3, 1) from by decide +kernel), ?_⟩
  refine List.forall_mem_cons.mpr ⟨fun _ _ _ _ _ _ _ _ _ _ _ _ _ _ _ _ _ _ X => so_iconst (n := 0) X (show decode code 971 = .ok (.iconst 0, 1) from by decide +kernel), ?_⟩
  refine List.forall_mem_cons.mpr ⟨fun _ _ _ _ _ _ _ _ _ _ _ _ _ _ _ _ _ _ X => so_lald X (show decode code 972 = .ok (.laload, 1) from by decide +kernel), ?_⟩
  refine List.forall_mem_cons.mpr ⟨fun _ _ _ _ _ _ _ _ _ _ _ _ _ _ _ _ _ _ X => so_iload (k := 6) X (show decode code 973 = .ok (.iload 6, 2) from by decide +kernel), ?_⟩
  refine List.forall_mem_cons.mpr ⟨fun _ _ _ _ _ _ _ _ _ _ _ _ _ _ _ _ _ _ X => so_i2l X (show decode code 975 = .ok (.i2l, 1) from by decide +kernel), ?_⟩
  refine List.forall_mem_cons.mpr ⟨fun _ _ _ _ _ _ _ _ _ _ _ _ _ _ _ _ _ _ X => so_lcmp X (show decode code 976 = .ok (.lcmp, 1) from by decide +kernel), ?_⟩
  refine List.forall_mem_cons.mpr ⟨fun _ _ _ _ _ _ _ _ _ _ _ _ _ _ _ _ _ _ X => so_if_eq (off := 5) (tgt := 982) X (show decode code 977 = .ok (.ifCond .eq 5, 3) from by decide +kernel) (by decide), ?_⟩
  refine List.forall_mem_cons.mpr ⟨fun _ _ _ _ _ _ _ _ _ _ _ _ _ _ _ _ _ _ X => so_iconst (n := 0) X (show decode code 980 = .ok (.iconst 0, 1) from by decide +kernel), ?_⟩
  refine List.forall_mem_cons.mpr ⟨fun _ _ _ _ _ _ _ _ _ _ _ _ _ _ _ _ _ _ X => so_zret X rfl (show decode code 981 = .ok (.ireturn, 1) from by decide +kernel), ?_⟩
  refine List.forall_mem_cons.mpr ⟨fun _ _ _ _ _ _ _ _ _ _ _ _ _ _ _ _ _ _ X => so_goto (off := 16) (tgt := 998) X (show decode code 982 = .ok (.goto 16, 3) from by decide +kernel) (by decide), ?_⟩
  refine List.forall_mem_cons.mpr ⟨fun _ _ _ _ _ _ _ _ _ _ _ _ _ _ _ _ _ _ X => so_aload_n (k := 1) X (show decode code 985 = .ok (.aload_n 1, 1) from by decide +kernel), ?_⟩
  refine List.forall_mem_cons.mpr ⟨fun _ _ _ _ _ _ _ _ _ _ _ _ _ _ _ _ _ _ X => so_callV (i := 77) (cn := 8) (n := 0) X rfl rfl rfl wq_255 wq_256 wq_257 wq_33 wd_77 wc_77 (show decode code 986 = .ok (.invokevirtual 123, 3) from by decide +kernel), ?_⟩
  refine List.forall_mem_cons.mpr ⟨fun _ _ _ _ _ _ _ _ _ _ _ _ _ _ _ _ _ _ X => so_aload_n (k := 2) X (show decode code 989 = .ok (.aload_n 2, 1) from by decide +kernel), ?_⟩
  refine List.forall_mem_cons.mpr ⟨fun _ _ _ _ _ _ _ _ _ _ _ _ _ _ _ _ _ _ X => so_callV (i := 126) (cn := 9) (n := 0) X rfl rfl rfl wq_942 wq_943 wq_944 wq_43 wd_126 wc_126 (show decode code 990 = .ok (.invokevirtual 126, 3) from by decide +kernel), ?_⟩
  refine List.forall_mem_cons.mpr ⟨fun _ _ _ _ _ _ _ _ _ _ _ _ _ _ _ _ _ _ X => so_icmp_eq (off := 5) (tgt := 998) X (show decode code 993 = .ok (.if_icmp .eq 5, 3) from by decide +kernel) (by decide), ?_⟩
  refine List.forall_mem_cons.mpr ⟨fun _ _ _ _ _ _ _ _ _ _ _ _ _ _ _ _ _ _ X => so_iconst (n := 0) X (show decode code 996 = .ok (.iconst 0, 1) from by decide +kernel), ?_⟩
  refine List.forall_mem_cons.mpr ⟨fun _ _ _ _ _ _ _ _ _ _ _ _ _ _ _ _ _ _ X => so_zret X rfl (show decode code 997 = .ok (.ireturn, 1) from by decide +kernel), ?_⟩
  refine List.forall_mem_cons.mpr ⟨fun _ _ _ _ _ _ _ _ _ _ _ _ _ _ _ _ _ _ X => so_iinc (k := 4) (n := 3) X (show decode code 998 = .ok (.iinc 4 3, 3) from by decide +kernel), ?_⟩
  refine List.forall_mem_cons.mpr ⟨fun _ _ _ _ _ _ _ _ _ _ _ _ _ _ _ _ _ _ X => so_goto (off := -978) (tgt := 23) X (show decode code 1001 = .ok (.goto (-978), 3) from by decide +kernel) (by decide), ?_⟩
  refine List.forall_mem_cons.mpr ⟨fun _ _ _ _ _ _ _ _ _ _ _ _ _ _ _ _ _ _ X => so_iconst (n := 1) X (show decode code 1004 = .ok (.iconst 1, 1) from by decide +kernel), ?_⟩
  refine List.forall_mem_cons.mpr ⟨fun _ _ _ _ _ _ _ _ _ _ _ _ _ _ _ _ _ _ X => so_zret X rfl (show decode code 1005 = .ok (.ireturn, 1) from by decide +kernel), ?_⟩
  exact fun _ h => absurd h List.not_mem_nil
