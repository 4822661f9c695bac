/-! ===== sound, op by op (written by a program) ===== -/
set_option maxRecDepth 100000 in
set_option maxHeartbeats 4000000 in
theorem sj_94 {L : Nat} {xs : Nat → Int32} : ∀ q ∈ cd_94, SJ L xs (md_94) q := by
  refine List.forall_mem_cons.mpr ⟨fun _ _ _ _ _ _ _ _ _ _ _ _ _ _ _ _ _ _ X => so_iload_n (k := 0) X (by decide +kernel), ?_⟩
  refine List.forall_mem_cons.mpr ⟨fun _ _ _ _ _ _ _ _ _ _ _ _ _ _ _ _ _ _ X => so_iload_n (k := 1) X (by decide +kernel), ?_⟩
  refine List.forall_mem_cons.mpr ⟨fun _ _ _ _ _ _ _ _ _ _ _ _ _ _ _ _ _ _ X => so_icmp_lt (off := 12) (tgt := 14) X (by decide +kernel) (by decide), ?_⟩
  refine List.forall_mem_cons.mpr ⟨fun _ _ _ _ _ _ _ _ _ _ _ _ _ _ _ _ _ _ X => so_iload_n (k := 0) X (by decide +kernel), ?_⟩
  refine List.forall_mem_cons.mpr ⟨fun _ _ _ _ _ _ _ _ _ _ _ _ _ _ _ _ _ _ X => so_iload_n (k := 2) X (by decide +kernel), ?_⟩
  refine List.forall_mem_cons.mpr ⟨fun _ _ _ _ _ _ _ _ _ _ _ _ _ _ _ _ _ _ X => so_icmp_gt (off := 7) (tgt := 14) X (by decide +kernel) (by decide), ?_⟩
  refine List.forall_mem_cons.mpr ⟨fun _ _ _ _ _ _ _ _ _ _ _ _ _ _ _ _ _ _ X => so_iconst (n := 1) X (by decide +kernel), ?_⟩
  refine List.forall_mem_cons.mpr ⟨fun _ _ _ _ _ _ _ _ _ _ _ _ _ _ _ _ _ _ X => so_goto (off := 4) (tgt := 15) X (by decide +kernel) (by decide), ?_⟩
  refine List.forall_mem_cons.mpr ⟨fun _ _ _ _ _ _ _ _ _ _ _ _ _ _ _ _ _ _ X => so_iconst (n := 0) X (by decide +kernel), ?_⟩
  refine List.forall_mem_cons.mpr ⟨fun _ _ _ _ _ _ _ _ _ _ _ _ _ _ _ _ _ _ X => so_zret X rfl (by decide +kernel), ?_⟩
  exact fun _ h => absurd h List.not_mem_nil
set_option maxRecDepth 100000 in
set_option maxHeartbeats 4000000 in
theorem sj_95 {L : Nat} {xs : Nat → Int32} : ∀ q ∈ cd_95, SJ L xs (md_95) q := by
  refine List.forall_mem_cons.mpr ⟨fun _ _ _ _ _ _ _ _ _ _ _ _ _ _ _ _ _ _ X => so_iload_n (k := 0) X (by decide +kernel), ?_⟩
  refine List.forall_mem_cons.mpr ⟨fun _ _ _ _ _ _ _ _ _ _ _ _ _ _ _ _ _ _ X => so_iconst (n := 0) X (by decide +kernel), ?_⟩
  refine List.forall_mem_cons.mpr ⟨fun _ _ _ _ _ _ _ _ _ _ _ _ _ _ _ _ _ _ X => so_iconst (n := 4) X (by decide +kernel), ?_⟩
  refine List.forall_mem_cons.mpr ⟨fun _ _ _ _ _ _ _ _ _ _ _ _ _ _ _ _ _ _ X => so_callS (i := 94) (n := 3) X rfl wq_813 wq_814 wq_43 wd_94 wc_94 (by decide +kernel), ?_⟩
  refine List.forall_mem_cons.mpr ⟨fun _ _ _ _ _ _ _ _ _ _ _ _ _ _ _ _ _ _ X => so_zret X rfl (by decide +kernel), ?_⟩
  exact fun _ h => absurd h List.not_mem_nil
set_option maxRecDepth 100000 in
set_option maxHeartbeats 4000000 in
theorem sj_96 {L : Nat} {xs : Nat → Int32} : ∀ q ∈ cd_96, SJ L xs (md_96) q := by
  refine List.forall_mem_cons.mpr ⟨fun _ _ _ _ _ _ _ _ _ _ _ _ _ _ _ _ _ _ X => so_iload_n (k := 1) X (by decide +kernel), ?_⟩
  refine List.forall_mem_cons.mpr ⟨fun _ _ _ _ _ _ _ _ _ _ _ _ _ _ _ _ _ _ X => so_iconst (n := 0) X (by decide +kernel), ?_⟩
  refine List.forall_mem_cons.mpr ⟨fun _ _ _ _ _ _ _ _ _ _ _ _ _ _ _ _ _ _ X => so_aload_n (k := 0) X (by decide +kernel), ?_⟩
  refine List.forall_mem_cons.mpr ⟨fun _ _ _ _ _ _ _ _ _ _ _ _ _ _ _ _ _ _ X => so_getI (cn := 9) (k := 13) X rfl (by omega) wq_750 (fun _ _ => rfl) (by decide +kernel), ?_⟩
  refine List.forall_mem_cons.mpr ⟨fun _ _ _ _ _ _ _ _ _ _ _ _ _ _ _ _ _ _ X => so_iconst (n := 1) X (by decide +kernel), ?_⟩
  refine List.forall_mem_cons.mpr ⟨fun _ _ _ _ _ _ _ _ _ _ _ _ _ _ _ _ _ _ X => so_isub X (by decide +kernel), ?_⟩
  refine List.forall_mem_cons.mpr ⟨fun _ _ _ _ _ _ _ _ _ _ _ _ _ _ _ _ _ _ X => so_callS (i := 94) (n := 3) X rfl wq_813 wq_814 wq_43 wd_94 wc_94 (by decide +kernel), ?_⟩
  refine List.forall_mem_cons.mpr ⟨fun _ _ _ _ _ _ _ _ _ _ _ _ _ _ _ _ _ _ X => so_zret X rfl (by decide +kernel), ?_⟩
  exact fun _ h => absurd h List.not_mem_nil
set_option maxRecDepth 100000 in
set_option maxHeartbeats 4000000 in
theorem sj_97 {L : Nat} {xs : Nat → Int32} : ∀ q ∈ cd_97, SJ L xs (md_97) q := by
  refine List.forall_mem_cons.mpr ⟨fun _ _ _ _ _ _ _ _ _ _ _ _ _ _ _ _ _ _ X => so_aload_n (k := 0) X (by decide +kernel), ?_⟩
  refine List.forall_mem_cons.mpr ⟨fun _ _ _ _ _ _ _ _ _ _ _ _ _ _ _ _ _ _ X => so_iload_n (k := 1) X (by decide +kernel), ?_⟩
  refine List.forall_mem_cons.mpr ⟨fun _ _ _ _ _ _ _ _ _ _ _ _ _ _ _ _ _ _ X => so_bipush (n := 97) X (by decide +kernel) (by decide +kernel), ?_⟩
  refine List.forall_mem_cons.mpr ⟨fun _ _ _ _ _ _ _ _ _ _ _ _ _ _ _ _ _ _ X => so_bipush (n := 122) X (by decide +kernel) (by decide +kernel), ?_⟩
  refine List.forall_mem_cons.mpr ⟨fun _ _ _ _ _ _ _ _ _ _ _ _ _ _ _ _ _ _ X => so_callS (i := 94) (n := 3) X rfl wq_813 wq_814 wq_43 wd_94 wc_94 (by decide +kernel), ?_⟩
  refine List.forall_mem_cons.mpr ⟨fun _ _ _ _ _ _ _ _ _ _ _ _ _ _ _ _ _ _ X => so_if_ne (off := 7) (tgt := 16) X (by decide +kernel) (by decide), ?_⟩
  refine List.forall_mem_cons.mpr ⟨fun _ _ _ _ _ _ _ _ _ _ _ _ _ _ _ _ _ _ X => so_iconst (n := 1) X (by decide +kernel), ?_⟩
  refine List.forall_mem_cons.mpr ⟨fun _ _ _ _ _ _ _ _ _ _ _ _ _ _ _ _ _ _ X => so_goto (off := 17) (tgt := 30) X (by decide +kernel) (by decide), ?_⟩
  refine List.forall_mem_cons.mpr ⟨fun _ _ _ _ _ _ _ _ _ _ _ _ _ _ _ _ _ _ X => so_aload_n (k := 0) X (by decide +kernel), ?_⟩
  refine List.forall_mem_cons.mpr ⟨fun _ _ _ _ _ _ _ _ _ _ _ _ _ _ _ _ _ _ X => so_getI (cn := 9) (k := 2) X rfl (by omega) wq_739 (fun _ _ => rfl) (by decide +kernel), ?_⟩
  refine List.forall_mem_cons.mpr ⟨fun _ _ _ _ _ _ _ _ _ _ _ _ _ _ _ _ _ _ X => so_bipush (n := 6) X (by decide +kernel) (by decide +kernel), ?_⟩
  refine List.forall_mem_cons.mpr ⟨fun _ _ _ _ _ _ _ _ _ _ _ _ _ _ _ _ _ _ X => so_icmp_ne (off := 7) (tgt := 29) X (by decide +kernel) (by decide), ?_⟩
  refine List.forall_mem_cons.mpr ⟨fun _ _ _ _ _ _ _ _ _ _ _ _ _ _ _ _ _ _ X => so_iconst (n := 2) X (by decide +kernel), ?_⟩
  refine List.forall_mem_cons.mpr ⟨fun _ _ _ _ _ _ _ _ _ _ _ _ _ _ _ _ _ _ X => so_goto (off := 4) (tgt := 30) X (by decide +kernel) (by decide), ?_⟩
  refine List.forall_mem_cons.mpr ⟨fun _ _ _ _ _ _ _ _ _ _ _ _ _ _ _ _ _ _ X => so_iconst (n := 0) X (by decide +kernel), ?_⟩
  refine List.forall_mem_cons.mpr ⟨fun _ _ _ _ _ _ _ _ _ _ _ _ _ _ _ _ _ _ X => so_callV (i := 93) (cn := 9) (n := 1) X rfl rfl rfl wq_816 wq_818 ws_X10_holds wq_43 wd_93 wc_93 (by decide +kernel), ?_⟩
  refine List.forall_mem_cons.mpr ⟨fun _ _ _ _ _ _ _ _ _ _ _ _ _ _ _ _ _ _ X => so_if_ne (off := 5) (tgt := 38) X (by decide +kernel) (by decide), ?_⟩
  refine List.forall_mem_cons.mpr ⟨fun _ _ _ _ _ _ _ _ _ _ _ _ _ _ _ _ _ _ X => so_iconst (n := 0) X (by decide +kernel), ?_⟩
  refine List.forall_mem_cons.mpr ⟨fun _ _ _ _ _ _ _ _ _ _ _ _ _ _ _ _ _ _ X => so_iret X rfl (by decide +kernel), ?_⟩
  refine List.forall_mem_cons.mpr ⟨fun _ _ _ _ _ _ _ _ _ _ _ _ _ _ _ _ _ _ X => so_aload_n (k := 0) X (by decide +kernel), ?_⟩
  refine List.forall_mem_cons.mpr ⟨fun _ _ _ _ _ _ _ _ _ _ _ _ _ _ _ _ _ _ X => so_bipush (n := 27) X (by decide +kernel) (by decide +kernel), ?_⟩
  refine List.forall_mem_cons.mpr ⟨fun _ _ _ _ _ _ _ _ _ _ _ _ _ _ _ _ _ _ X => so_aload_n (k := 0) X (by decide +kernel), ?_⟩
  refine List.forall_mem_cons.mpr ⟨fun _ _ _ _ _ _ _ _ _ _ _ _ _ _ _ _ _ _ X => so_getI (cn := 9) (k := 1) X rfl (by omega) wq_738 (fun _ _ => rfl) (by decide +kernel), ?_⟩
  refine List.forall_mem_cons.mpr ⟨fun _ _ _ _ _ _ _ _ _ _ _ _ _ _ _ _ _ _ X => so_imul X (by decide +kernel), ?_⟩
  refine List.forall_mem_cons.mpr ⟨fun _ _ _ _ _ _ _ _ _ _ _ _ _ _ _ _ _ _ X => so_iload_n (k := 1) X (by decide +kernel), ?_⟩
  refine List.forall_mem_cons.mpr ⟨fun _ _ _ _ _ _ _ _ _ _ _ _ _ _ _ _ _ _ X => so_iadd X (by decide +kernel), ?_⟩
  refine List.forall_mem_cons.mpr ⟨fun _ _ _ _ _ _ _ _ _ _ _ _ _ _ _ _ _ _ X => so_bipush (n := 97) X (by decide +kernel) (by decide +kernel), ?_⟩
  refine List.forall_mem_cons.mpr ⟨fun _ _ _ _ _ _ _ _ _ _ _ _ _ _ _ _ _ _ X => so_isub X (by decide +kernel), ?_⟩
  refine List.forall_mem_cons.mpr ⟨fun _ _ _ _ _ _ _ _ _ _ _ _ _ _ _ _ _ _ X => so_iconst (n := 1) X (by decide +kernel), ?_⟩
  refine List.forall_mem_cons.mpr ⟨fun _ _ _ _ _ _ _ _ _ _ _ _ _ _ _ _ _ _ X => so_iadd X (by decide +kernel), ?_⟩
  refine List.forall_mem_cons.mpr ⟨fun _ _ _ _ _ _ _ _ _ _ _ _ _ _ _ _ _ _ X => so_putI (cn := 9) (k := 1) X rfl (by omega) (Or.inl wq_738) rfl rfl (by decide +kernel), ?_⟩
  refine List.forall_mem_cons.mpr ⟨fun _ _ _ _ _ _ _ _ _ _ _ _ _ _ _ _ _ _ X => so_aload_n (k := 0) X (by decide +kernel), ?_⟩
  refine List.forall_mem_cons.mpr ⟨fun _ _ _ _ _ _ _ _ _ _ _ _ _ _ _ _ _ _ X => so_dup X (by decide +kernel), ?_⟩
  refine List.forall_mem_cons.mpr ⟨fun _ _ _ _ _ _ _ _ _ _ _ _ _ _ _ _ _ _ X => so_getI (cn := 9) (k := 2) X rfl (by omega) wq_739 (fun _ _ => rfl) (by decide +kernel), ?_⟩
  refine List.forall_mem_cons.mpr ⟨fun _ _ _ _ _ _ _ _ _ _ _ _ _ _ _ _ _ _ X => so_iconst (n := 1) X (by decide +kernel), ?_⟩
  refine List.forall_mem_cons.mpr ⟨fun _ _ _ _ _ _ _ _ _ _ _ _ _ _ _ _ _ _ X => so_iadd X (by decide +kernel), ?_⟩
  refine List.forall_mem_cons.mpr ⟨fun _ _ _ _ _ _ _ _ _ _ _ _ _ _ _ _ _ _ X => so_putI (cn := 9) (k := 2) X rfl (by omega) (Or.inl wq_739) rfl rfl (by decide +kernel), ?_⟩
  refine List.forall_mem_cons.mpr ⟨fun _ _ _ _ _ _ _ _ _ _ _ _ _ _ _ _ _ _ X => so_aload_n (k := 0) X (by decide +kernel), ?_⟩
  refine List.forall_mem_cons.mpr ⟨fun _ _ _ _ _ _ _ _ _ _ _ _ _ _ _ _ _ _ X => so_getI (cn := 9) (k := 2) X rfl (by omega) wq_739 (fun _ _ => rfl) (by decide +kernel), ?_⟩
  refine List.forall_mem_cons.mpr ⟨fun _ _ _ _ _ _ _ _ _ _ _ _ _ _ _ _ _ _ X => so_iret X rfl (by decide +kernel), ?_⟩
  exact fun _ h => absurd h List.not_mem_nil
set_option maxRecDepth 100000 in
set_option maxHeartbeats 4000000 in
theorem sj_98 {L : Nat} {xs : Nat → Int32} : ∀ q ∈ cd_98, SJ L xs (md_98) q := by
  refine List.forall_mem_cons.mpr ⟨fun _ _ _ _ _ _ _ _ _ _ _ _ _ _ _ _ _ _ X => so_aload_n (k := 0) X (by decide +kernel), ?_⟩
  refine List.forall_mem_cons.mpr ⟨fun _ _ _ _ _ _ _ _ _ _ _ _ _ _ _ _ _ _ X => so_getI (cn := 9) (k := 1) X rfl (by omega) wq_738 (fun _ _ => rfl) (by decide +kernel), ?_⟩
  refine List.forall_mem_cons.mpr ⟨fun _ _ _ _ _ _ _ _ _ _ _ _ _ _ _ _ _ _ X => so_istore_n (k := 1) X (by decide +kernel), ?_⟩
  refine List.forall_mem_cons.mpr ⟨fun _ _ _ _ _ _ _ _ _ _ _ _ _ _ _ _ _ _ X => so_aload_n (k := 0) X (by decide +kernel), ?_⟩
  refine List.forall_mem_cons.mpr ⟨fun _ _ _ _ _ _ _ _ _ _ _ _ _ _ _ _ _ _ X => so_iconst (n := 0) X (by decide +kernel), ?_⟩
  refine List.forall_mem_cons.mpr ⟨fun _ _ _ _ _ _ _ _ _ _ _ _ _ _ _ _ _ _ X => so_putI (cn := 9) (k := 1) X rfl (by omega) (Or.inl wq_738) rfl rfl (by decide +kernel), ?_⟩
  refine List.forall_mem_cons.mpr ⟨fun _ _ _ _ _ _ _ _ _ _ _ _ _ _ _ _ _ _ X => so_aload_n (k := 0) X (by decide +kernel), ?_⟩
  refine List.forall_mem_cons.mpr ⟨fun _ _ _ _ _ _ _ _ _ _ _ _ _ _ _ _ _ _ X => so_iconst (n := 0) X (by decide +kernel), ?_⟩
  refine List.forall_mem_cons.mpr ⟨fun _ _ _ _ _ _ _ _ _ _ _ _ _ _ _ _ _ _ X => so_putI (cn := 9) (k := 2) X rfl (by omega) (Or.inl wq_739) rfl rfl (by decide +kernel), ?_⟩
  refine List.forall_mem_cons.mpr ⟨fun _ _ _ _ _ _ _ _ _ _ _ _ _ _ _ _ _ _ X => so_iload_n (k := 1) X (by decide +kernel), ?_⟩
  refine List.forall_mem_cons.mpr ⟨fun _ _ _ _ _ _ _ _ _ _ _ _ _ _ _ _ _ _ X => so_iret X rfl (by decide +kernel), ?_⟩
  exact fun _ h => absurd h List.not_mem_nil
set_option maxRecDepth 100000 in
set_option maxHeartbeats 4000000 in
theorem sj_99 {L : Nat} {xs : Nat → Int32} : ∀ q ∈ cd_99, SJ L xs (md_99) q := by
  refine List.forall_mem_cons.mpr ⟨fun _ _ _ _ _ _ _ _ _ _ _ _ _ _ _ _ _ _ X => so_aload_n (k := 0) X (by decide +kernel), ?_⟩
  refine List.forall_mem_cons.mpr ⟨fun _ _ _ _ _ _ _ _ _ _ _ _ _ _ _ _ _ _ X => so_iload_n (k := 1) X (by decide +kernel), ?_⟩
  refine List.forall_mem_cons.mpr ⟨fun _ _ _ _ _ _ _ _ _ _ _ _ _ _ _ _ _ _ X => so_callS (i := 95) (n := 1) X rfl wq_824 wq_825 wq_43 wd_95 wc_95 (by decide +kernel), ?_⟩
  refine List.forall_mem_cons.mpr ⟨fun _ _ _ _ _ _ _ _ _ _ _ _ _ _ _ _ _ _ X => so_if_ne (off := 7) (tgt := 12) X (by decide +kernel) (by decide), ?_⟩
  refine List.forall_mem_cons.mpr ⟨fun _ _ _ _ _ _ _ _ _ _ _ _ _ _ _ _ _ _ X => so_iconst (n := 1) X (by decide +kernel), ?_⟩
  refine List.forall_mem_cons.mpr ⟨fun _ _ _ _ _ _ _ _ _ _ _ _ _ _ _ _ _ _ X => so_goto (off := 24) (tgt := 33) X (by decide +kernel) (by decide), ?_⟩
  refine List.forall_mem_cons.mpr ⟨fun _ _ _ _ _ _ _ _ _ _ _ _ _ _ _ _ _ _ X => so_aload_n (k := 0) X (by decide +kernel), ?_⟩
  refine List.forall_mem_cons.mpr ⟨fun _ _ _ _ _ _ _ _ _ _ _ _ _ _ _ _ _ _ X => so_getI (cn := 9) (k := 2) X rfl (by omega) wq_739 (fun _ _ => rfl) (by decide +kernel), ?_⟩
  refine List.forall_mem_cons.mpr ⟨fun _ _ _ _ _ _ _ _ _ _ _ _ _ _ _ _ _ _ X => so_if_eq (off := 12) (tgt := 28) X (by decide +kernel) (by decide), ?_⟩
  refine List.forall_mem_cons.mpr ⟨fun _ _ _ _ _ _ _ _ _ _ _ _ _ _ _ _ _ _ X => so_aload_n (k := 0) X (by decide +kernel), ?_⟩
  refine List.forall_mem_cons.mpr ⟨fun _ _ _ _ _ _ _ _ _ _ _ _ _ _ _ _ _ _ X => so_getI (cn := 9) (k := 5) X rfl (by omega) wq_742 (fun _ _ => rfl) (by decide +kernel), ?_⟩
  refine List.forall_mem_cons.mpr ⟨fun _ _ _ _ _ _ _ _ _ _ _ _ _ _ _ _ _ _ X => so_bipush (n := 6) X (by decide +kernel) (by decide +kernel), ?_⟩
  refine List.forall_mem_cons.mpr ⟨fun _ _ _ _ _ _ _ _ _ _ _ _ _ _ _ _ _ _ X => so_icmp_ne (off := 7) (tgt := 32) X (by decide +kernel) (by decide), ?_⟩
  refine List.forall_mem_cons.mpr ⟨fun _ _ _ _ _ _ _ _ _ _ _ _ _ _ _ _ _ _ X => so_iconst (n := 2) X (by decide +kernel), ?_⟩
  refine List.forall_mem_cons.mpr ⟨fun _ _ _ _ _ _ _ _ _ _ _ _ _ _ _ _ _ _ X => so_goto (off := 4) (tgt := 33) X (by decide +kernel) (by decide), ?_⟩
  refine List.forall_mem_cons.mpr ⟨fun _ _ _ _ _ _ _ _ _ _ _ _ _ _ _ _ _ _ X => so_iconst (n := 0) X (by decide +kernel), ?_⟩
  refine List.forall_mem_cons.mpr ⟨fun _ _ _ _ _ _ _ _ _ _ _ _ _ _ _ _ _ _ X => so_callV (i := 93) (cn := 9) (n := 1) X rfl rfl rfl wq_816 wq_818 ws_X10_holds wq_43 wd_93 wc_93 (by decide +kernel), ?_⟩
  refine List.forall_mem_cons.mpr ⟨fun _ _ _ _ _ _ _ _ _ _ _ _ _ _ _ _ _ _ X => so_if_ne (off := 5) (tgt := 41) X (by decide +kernel) (by decide), ?_⟩
  refine List.forall_mem_cons.mpr ⟨fun _ _ _ _ _ _ _ _ _ _ _ _ _ _ _ _ _ _ X => so_iconst (n := 0) X (by decide +kernel), ?_⟩
  refine List.forall_mem_cons.mpr ⟨fun _ _ _ _ _ _ _ _ _ _ _ _ _ _ _ _ _ _ X => so_iret X rfl (by decide +kernel), ?_⟩
  refine List.forall_mem_cons.mpr ⟨fun _ _ _ _ _ _ _ _ _ _ _ _ _ _ _ _ _ _ X => so_aload_n (k := 0) X (by decide +kernel), ?_⟩
  refine List.forall_mem_cons.mpr ⟨fun _ _ _ _ _ _ _ _ _ _ _ _ _ _ _ _ _ _ X => so_getR (cn := 9) (k := 3) X rfl (by omega) wq_740 (fun _ _ => rfl) (by decide +kernel), ?_⟩
  refine List.forall_mem_cons.mpr ⟨fun _ _ _ _ _ _ _ _ _ _ _ _ _ _ _ _ _ _ X => so_aload_n (k := 0) X (by decide +kernel), ?_⟩
  refine List.forall_mem_cons.mpr ⟨fun _ _ _ _ _ _ _ _ _ _ _ _ _ _ _ _ _ _ X => so_getI (cn := 9) (k := 5) X rfl (by omega) wq_742 (fun _ _ => rfl) (by decide +kernel), ?_⟩
  refine List.forall_mem_cons.mpr ⟨fun _ _ _ _ _ _ _ _ _ _ _ _ _ _ _ _ _ _ X => so_aload_n (k := 0) X (by decide +kernel), ?_⟩
  refine List.forall_mem_cons.mpr ⟨fun _ _ _ _ _ _ _ _ _ _ _ _ _ _ _ _ _ _ X => so_callV (i := 98) (cn := 9) (n := 0) X rfl rfl rfl wq_827 wq_829 ws_X10_takes wq_43 wd_98 wc_98 (by decide +kernel), ?_⟩
  refine List.forall_mem_cons.mpr ⟨fun _ _ _ _ _ _ _ _ _ _ _ _ _ _ _ _ _ _ X => so_iast X (by decide +kernel), ?_⟩
  refine List.forall_mem_cons.mpr ⟨fun _ _ _ _ _ _ _ _ _ _ _ _ _ _ _ _ _ _ X => so_aload_n (k := 0) X (by decide +kernel), ?_⟩
  refine List.forall_mem_cons.mpr ⟨fun _ _ _ _ _ _ _ _ _ _ _ _ _ _ _ _ _ _ X => so_getR (cn := 9) (k := 4) X rfl (by omega) wq_741 (fun _ _ => rfl) (by decide +kernel), ?_⟩
  refine List.forall_mem_cons.mpr ⟨fun _ _ _ _ _ _ _ _ _ _ _ _ _ _ _ _ _ _ X => so_aload_n (k := 0) X (by decide +kernel), ?_⟩
  refine List.forall_mem_cons.mpr ⟨fun _ _ _ _ _ _ _ _ _ _ _ _ _ _ _ _ _ _ X => so_getI (cn := 9) (k := 5) X rfl (by omega) wq_742 (fun _ _ => rfl) (by decide +kernel), ?_⟩
  refine List.forall_mem_cons.mpr ⟨fun _ _ _ _ _ _ _ _ _ _ _ _ _ _ _ _ _ _ X => so_iload_n (k := 1) X (by decide +kernel), ?_⟩
  refine List.forall_mem_cons.mpr ⟨fun _ _ _ _ _ _ _ _ _ _ _ _ _ _ _ _ _ _ X => so_iast X (by decide +kernel), ?_⟩
  refine List.forall_mem_cons.mpr ⟨fun _ _ _ _ _ _ _ _ _ _ _ _ _ _ _ _ _ _ X => so_aload_n (k := 0) X (by decide +kernel), ?_⟩
  refine List.forall_mem_cons.mpr ⟨fun _ _ _ _ _ _ _ _ _ _ _ _ _ _ _ _ _ _ X => so_dup X (by decide +kernel), ?_⟩
  refine List.forall_mem_cons.mpr ⟨fun _ _ _ _ _ _ _ _ _ _ _ _ _ _ _ _ _ _ X => so_getI (cn := 9) (k := 5) X rfl (by omega) wq_742 (fun _ _ => rfl) (by decide +kernel), ?_⟩
  refine List.forall_mem_cons.mpr ⟨fun _ _ _ _ _ _ _ _ _ _ _ _ _ _ _ _ _ _ X => so_iconst (n := 1) X (by decide +kernel), ?_⟩
  refine List.forall_mem_cons.mpr ⟨fun _ _ _ _ _ _ _ _ _ _ _ _ _ _ _ _ _ _ X => so_iadd X (by decide +kernel), ?_⟩
  refine List.forall_mem_cons.mpr ⟨fun _ _ _ _ _ _ _ _ _ _ _ _ _ _ _ _ _ _ X => so_putI (cn := 9) (k := 5) X rfl (by omega) (Or.inl wq_742) rfl rfl (by decide +kernel), ?_⟩
  refine List.forall_mem_cons.mpr ⟨fun _ _ _ _ _ _ _ _ _ _ _ _ _ _ _ _ _ _ X => so_aload_n (k := 0) X (by decide +kernel), ?_⟩
  refine List.forall_mem_cons.mpr ⟨fun _ _ _ _ _ _ _ _ _ _ _ _ _ _ _ _ _ _ X => so_getI (cn := 9) (k := 5) X rfl (by omega) wq_742 (fun _ _ => rfl) (by decide +kernel), ?_⟩
  refine List.forall_mem_cons.mpr ⟨fun _ _ _ _ _ _ _ _ _ _ _ _ _ _ _ _ _ _ X => so_iret X rfl (by decide +kernel), ?_⟩
  exact fun _ h => absurd h List.not_mem_nil
set_option maxRecDepth 100000 in
set_option maxHeartbeats 4000000 in
theorem sj_100 {L : Nat} {xs : Nat → Int32} : ∀ q ∈ cd_100, SJ L xs (md_100) q := by
  refine List.forall_mem_cons.mpr ⟨fun _ _ _ _ _ _ _ _ _ _ _ _ _ _ _ _ _ _ X => so_aload_n (k := 0) X (by decide +kernel), ?_⟩
  refine List.forall_mem_cons.mpr ⟨fun _ _ _ _ _ _ _ _ _ _ _ _ _ _ _ _ _ _ X => so_aload_n (k := 0) X (by decide +kernel), ?_⟩
  refine List.forall_mem_cons.mpr ⟨fun _ _ _ _ _ _ _ _ _ _ _ _ _ _ _ _ _ _ X => so_getI (cn := 9) (k := 5) X rfl (by omega) wq_742 (fun _ _ => rfl) (by decide +kernel), ?_⟩
  refine List.forall_mem_cons.mpr ⟨fun _ _ _ _ _ _ _ _ _ _ _ _ _ _ _ _ _ _ X => so_if_eq (off := 12) (tgt := 17) X (by decide +kernel) (by decide), ?_⟩
  refine List.forall_mem_cons.mpr ⟨fun _ _ _ _ _ _ _ _ _ _ _ _ _ _ _ _ _ _ X => so_aload_n (k := 0) X (by decide +kernel), ?_⟩
  refine List.forall_mem_cons.mpr ⟨fun _ _ _ _ _ _ _ _ _ _ _ _ _ _ _ _ _ _ X => so_getI (cn := 9) (k := 10) X rfl (by omega) wq_747 (fun _ _ => rfl) (by decide +kernel), ?_⟩
  refine List.forall_mem_cons.mpr ⟨fun _ _ _ _ _ _ _ _ _ _ _ _ _ _ _ _ _ _ X => so_bipush (n := 20) X (by decide +kernel) (by decide +kernel), ?_⟩
  refine List.forall_mem_cons.mpr ⟨fun _ _ _ _ _ _ _ _ _ _ _ _ _ _ _ _ _ _ X => so_icmp_ne (off := 7) (tgt := 21) X (by decide +kernel) (by decide), ?_⟩
  refine List.forall_mem_cons.mpr ⟨fun _ _ _ _ _ _ _ _ _ _ _ _ _ _ _ _ _ _ X => so_iconst (n := 1) X (by decide +kernel), ?_⟩
  refine List.forall_mem_cons.mpr ⟨fun _ _ _ _ _ _ _ _ _ _ _ _ _ _ _ _ _ _ X => so_goto (off := 4) (tgt := 22) X (by decide +kernel) (by decide), ?_⟩
  refine List.forall_mem_cons.mpr ⟨fun _ _ _ _ _ _ _ _ _ _ _ _ _ _ _ _ _ _ X => so_iconst (n := 0) X (by decide +kernel), ?_⟩
  refine List.forall_mem_cons.mpr ⟨fun _ _ _ _ _ _ _ _ _ _ _ _ _ _ _ _ _ _ X => so_callV (i := 93) (cn := 9) (n := 1) X rfl rfl rfl wq_816 wq_818 ws_X10_holds wq_43 wd_93 wc_93 (by decide +kernel), ?_⟩
  refine List.forall_mem_cons.mpr ⟨fun _ _ _ _ _ _ _ _ _ _ _ _ _ _ _ _ _ _ X => so_if_ne (off := 5) (tgt := 30) X (by decide +kernel) (by decide), ?_⟩
  refine List.forall_mem_cons.mpr ⟨fun _ _ _ _ _ _ _ _ _ _ _ _ _ _ _ _ _ _ X => so_iconst (n := 0) X (by decide +kernel), ?_⟩
  refine List.forall_mem_cons.mpr ⟨fun _ _ _ _ _ _ _ _ _ _ _ _ _ _ _ _ _ _ X => so_iret X rfl (by decide +kernel), ?_⟩
  refine List.forall_mem_cons.mpr ⟨fun _ _ _ _ _ _ _ _ _ _ _ _ _ _ _ _ _ _ X => so_iconst (n := 0) X (by decide +kernel), ?_⟩
  refine List.forall_mem_cons.mpr ⟨fun _ _ _ _ _ _ _ _ _ _ _ _ _ _ _ _ _ _ X => so_istore_n (k := 1) X (by decide +kernel), ?_⟩
  refine List.forall_mem_cons.mpr ⟨fun _ _ _ _ _ _ _ _ _ _ _ _ _ _ _ _ _ _ X => so_iload_n (k := 1) X (by decide +kernel), ?_⟩
  refine List.forall_mem_cons.mpr ⟨fun _ _ _ _ _ _ _ _ _ _ _ _ _ _ _ _ _ _ X => so_aload_n (k := 0) X (by decide +kernel), ?_⟩
  refine List.forall_mem_cons.mpr ⟨fun _ _ _ _ _ _ _ _ _ _ _ _ _ _ _ _ _ _ X => so_getI (cn := 9) (k := 5) X rfl (by omega) wq_742 (fun _ _ => rfl) (by decide +kernel), ?_⟩
  refine List.forall_mem_cons.mpr ⟨fun _ _ _ _ _ _ _ _ _ _ _ _ _ _ _ _ _ _ X => so_icmp_ge (off := 49) (tgt := 86) X (by decide +kernel) (by decide), ?_⟩
  refine List.forall_mem_cons.mpr ⟨fun _ _ _ _ _ _ _ _ _ _ _ _ _ _ _ _ _ _ X => so_aload_n (k := 0) X (by decide +kernel), ?_⟩
  refine List.forall_mem_cons.mpr ⟨fun _ _ _ _ _ _ _ _ _ _ _ _ _ _ _ _ _ _ X => so_getR (cn := 9) (k := 6) X rfl (by omega) wq_743 (fun _ _ => rfl) (by decide +kernel), ?_⟩
  refine List.forall_mem_cons.mpr ⟨fun _ _ _ _ _ _ _ _ _ _ _ _ _ _ _ _ _ _ X => so_bipush (n := 6) X (by decide +kernel) (by decide +kernel), ?_⟩
  refine List.forall_mem_cons.mpr ⟨fun _ _ _ _ _ _ _ _ _ _ _ _ _ _ _ _ _ _ X => so_aload_n (k := 0) X (by decide +kernel), ?_⟩
  refine List.forall_mem_cons.mpr ⟨fun _ _ _ _ _ _ _ _ _ _ _ _ _ _ _ _ _ _ X => so_getI (cn := 9) (k := 10) X rfl (by omega) wq_747 (fun _ _ => rfl) (by decide +kernel), ?_⟩
  refine List.forall_mem_cons.mpr ⟨fun _ _ _ _ _ _ _ _ _ _ _ _ _ _ _ _ _ _ X => so_imul X (by decide +kernel), ?_⟩
  refine List.forall_mem_cons.mpr ⟨fun _ _ _ _ _ _ _ _ _ _ _ _ _ _ _ _ _ _ X => so_iload_n (k := 1) X (by decide +kernel), ?_⟩
  refine List.forall_mem_cons.mpr ⟨fun _ _ _ _ _ _ _ _ _ _ _ _ _ _ _ _ _ _ X => so_iadd X (by decide +kernel), ?_⟩
  refine List.forall_mem_cons.mpr ⟨fun _ _ _ _ _ _ _ _ _ _ _ _ _ _ _ _ _ _ X => so_aload_n (k := 0) X (by decide +kernel), ?_⟩
  refine List.forall_mem_cons.mpr ⟨fun _ _ _ _ _ _ _ _ _ _ _ _ _ _ _ _ _ _ X => so_getR (cn := 9) (k := 3) X rfl (by omega) wq_740 (fun _ _ => rfl) (by decide +kernel), ?_⟩
  refine List.forall_mem_cons.mpr ⟨fun _ _ _ _ _ _ _ _ _ _ _ _ _ _ _ _ _ _ X => so_iload_n (k := 1) X (by decide +kernel), ?_⟩
  refine List.forall_mem_cons.mpr ⟨fun _ _ _ _ _ _ _ _ _ _ _ _ _ _ _ _ _ _ X => so_iald X (by decide +kernel), ?_⟩
  refine List.forall_mem_cons.mpr ⟨fun _ _ _ _ _ _ _ _ _ _ _ _ _ _ _ _ _ _ X => so_iast X (by decide +kernel), ?_⟩
  refine List.forall_mem_cons.mpr ⟨fun _ _ _ _ _ _ _ _ _ _ _ _ _ _ _ _ _ _ X => so_aload_n (k := 0) X (by decide +kernel), ?_⟩
  refine List.forall_mem_cons.mpr ⟨fun _ _ _ _ _ _ _ _ _ _ _ _ _ _ _ _ _ _ X => so_getR (cn := 9) (k := 7) X rfl (by omega) wq_744 (fun _ _ => rfl) (by decide +kernel), ?_⟩
  refine List.forall_mem_cons.mpr ⟨fun _ _ _ _ _ _ _ _ _ _ _ _ _ _ _ _ _ _ X => so_bipush (n := 6) X (by decide +kernel) (by decide +kernel), ?_⟩
  refine List.forall_mem_cons.mpr ⟨fun _ _ _ _ _ _ _ _ _ _ _ _ _ _ _ _ _ _ X => so_aload_n (k := 0) X (by decide +kernel), ?_⟩
  refine List.forall_mem_cons.mpr ⟨fun _ _ _ _ _ _ _ _ _ _ _ _ _ _ _ _ _ _ X => so_getI (cn := 9) (k := 10) X rfl (by omega) wq_747 (fun _ _ => rfl) (by decide +kernel), ?_⟩
  refine List.forall_mem_cons.mpr ⟨fun _ _ _ _ _ _ _ _ _ _ _ _ _ _ _ _ _ _ X => so_imul X (by decide +kernel), ?_⟩
  refine List.forall_mem_cons.mpr ⟨fun _ _ _ _ _ _ _ _ _ _ _ _ _ _ _ _ _ _ X => so_iload_n (k := 1) X (by decide +kernel), ?_⟩
  refine List.forall_mem_cons.mpr ⟨fun _ _ _ _ _ _ _ _ _ _ _ _ _ _ _ _ _ _ X => so_iadd X (by decide +kernel), ?_⟩
  refine List.forall_mem_cons.mpr ⟨fun _ _ _ _ _ _ _ _ _ _ _ _ _ _ _ _ _ _ X => so_aload_n (k := 0) X (by decide +kernel), ?_⟩
  refine List.forall_mem_cons.mpr ⟨fun _ _ _ _ _ _ _ _ _ _ _ _ _ _ _ _ _ _ X => so_getR (cn := 9) (k := 4) X rfl (by omega) wq_741 (fun _ _ => rfl) (by decide +kernel), ?_⟩
  refine List.forall_mem_cons.mpr ⟨fun _ _ _ _ _ _ _ _ _ _ _ _ _ _ _ _ _ _ X => so_iload_n (k := 1) X (by decide +kernel), ?_⟩
  refine List.forall_mem_cons.mpr ⟨fun _ _ _ _ _ _ _ _ _ _ _ _ _ _ _ _ _ _ X => so_iald X (by decide +kernel), ?_⟩
  refine List.forall_mem_cons.mpr ⟨fun _ _ _ _ _ _ _ _ _ _ _ _ _ _ _ _ _ _ X => so_iast X (by decide +kernel), ?_⟩
  refine List.forall_mem_cons.mpr ⟨fun _ _ _ _ _ _ _ _ _ _ _ _ _ _ _ _ _ _ X => so_iinc (k := 1) (n := 1) X (by decide +kernel), ?_⟩
  refine List.forall_mem_cons.mpr ⟨fun _ _ _ _ _ _ _ _ _ _ _ _ _ _ _ _ _ _ X => so_goto (off := -51) (tgt := 32) X (by decide +kernel) (by decide), ?_⟩
  refine List.forall_mem_cons.mpr ⟨fun _ _ _ _ _ _ _ _ _ _ _ _ _ _ _ _ _ _ X => so_aload_n (k := 0) X (by decide +kernel), ?_⟩
  refine List.forall_mem_cons.mpr ⟨fun _ _ _ _ _ _ _ _ _ _ _ _ _ _ _ _ _ _ X => so_getR (cn := 9) (k := 8) X rfl (by omega) wq_745 (fun _ _ => rfl) (by decide +kernel), ?_⟩
  refine List.forall_mem_cons.mpr ⟨fun _ _ _ _ _ _ _ _ _ _ _ _ _ _ _ _ _ _ X => so_aload_n (k := 0) X (by decide +kernel), ?_⟩
  refine List.forall_mem_cons.mpr ⟨fun _ _ _ _ _ _ _ _ _ _ _ _ _ _ _ _ _ _ X => so_getI (cn := 9) (k := 10) X rfl (by omega) wq_747 (fun _ _ => rfl) (by decide +kernel), ?_⟩
  refine List.forall_mem_cons.mpr ⟨fun _ _ _ _ _ _ _ _ _ _ _ _ _ _ _ _ _ _ X => so_aload_n (k := 0) X (by decide +kernel), ?_⟩
  refine List.forall_mem_cons.mpr ⟨fun _ _ _ _ _ _ _ _ _ _ _ _ _ _ _ _ _ _ X => so_getI (cn := 9) (k := 5) X rfl (by omega) wq_742 (fun _ _ => rfl) (by decide +kernel), ?_⟩
  refine List.forall_mem_cons.mpr ⟨fun _ _ _ _ _ _ _ _ _ _ _ _ _ _ _ _ _ _ X => so_iast X (by decide +kernel), ?_⟩
  refine List.forall_mem_cons.mpr ⟨fun _ _ _ _ _ _ _ _ _ _ _ _ _ _ _ _ _ _ X => so_aload_n (k := 0) X (by decide +kernel), ?_⟩
  refine List.forall_mem_cons.mpr ⟨fun _ _ _ _ _ _ _ _ _ _ _ _ _ _ _ _ _ _ X => so_getR (cn := 9) (k := 9) X rfl (by omega) wq_746 (fun _ _ => rfl) (by decide +kernel), ?_⟩
  refine List.forall_mem_cons.mpr ⟨fun _ _ _ _ _ _ _ _ _ _ _ _ _ _ _ _ _ _ X => so_aload_n (k := 0) X (by decide +kernel), ?_⟩
  refine List.forall_mem_cons.mpr ⟨fun _ _ _ _ _ _ _ _ _ _ _ _ _ _ _ _ _ _ X => so_getI (cn := 9) (k := 10) X rfl (by omega) wq_747 (fun _ _ => rfl) (by decide +kernel), ?_⟩
  refine List.forall_mem_cons.mpr ⟨fun _ _ _ _ _ _ _ _ _ _ _ _ _ _ _ _ _ _ X => so_iconst (n := 1) X (by decide +kernel), ?_⟩
  refine List.forall_mem_cons.mpr ⟨fun _ _ _ _ _ _ _ _ _ _ _ _ _ _ _ _ _ _ X => so_zast X (by decide +kernel), ?_⟩
  refine List.forall_mem_cons.mpr ⟨fun _ _ _ _ _ _ _ _ _ _ _ _ _ _ _ _ _ _ X => so_aload_n (k := 0) X (by decide +kernel), ?_⟩
  refine List.forall_mem_cons.mpr ⟨fun _ _ _ _ _ _ _ _ _ _ _ _ _ _ _ _ _ _ X => so_iconst (n := 0) X (by decide +kernel), ?_⟩
  refine List.forall_mem_cons.mpr ⟨fun _ _ _ _ _ _ _ _ _ _ _ _ _ _ _ _ _ _ X => so_putI (cn := 9) (k := 5) X rfl (by omega) (Or.inl wq_742) rfl rfl (by decide +kernel), ?_⟩
  refine List.forall_mem_cons.mpr ⟨fun _ _ _ _ _ _ _ _ _ _ _ _ _ _ _ _ _ _ X => so_aload_n (k := 0) X (by decide +kernel), ?_⟩
  refine List.forall_mem_cons.mpr ⟨fun _ _ _ _ _ _ _ _ _ _ _ _ _ _ _ _ _ _ X => so_dup X (by decide +kernel), ?_⟩
  refine List.forall_mem_cons.mpr ⟨fun _ _ _ _ _ _ _ _ _ _ _ _ _ _ _ _ _ _ X => so_getI (cn := 9) (k := 10) X rfl (by omega) wq_747 (fun _ _ => rfl) (by decide +kernel), ?_⟩
  refine List.forall_mem_cons.mpr ⟨fun _ _ _ _ _ _ _ _ _ _ _ _ _ _ _ _ _ _ X => so_iconst (n := 1) X (by decide +kernel), ?_⟩
  refine List.forall_mem_cons.mpr ⟨fun _ _ _ _ _ _ _ _ _ _ _ _ _ _ _ _ _ _ X => so_iadd X (by decide +kernel), ?_⟩
  refine List.forall_mem_cons.mpr ⟨fun _ _ _ _ _ _ _ _ _ _ _ _ _ _ _ _ _ _ X => so_putI (cn := 9) (k := 10) X rfl (by omega) (Or.inl wq_747) rfl rfl (by decide +kernel), ?_⟩
  refine List.forall_mem_cons.mpr ⟨fun _ _ _ _ _ _ _ _ _ _ _ _ _ _ _ _ _ _ X => so_aload_n (k := 0) X (by decide +kernel), ?_⟩
  refine List.forall_mem_cons.mpr ⟨fun _ _ _ _ _ _ _ _ _ _ _ _ _ _ _ _ _ _ X => so_getI (cn := 9) (k := 10) X rfl (by omega) wq_747 (fun _ _ => rfl) (by decide +kernel), ?_⟩
  refine List.forall_mem_cons.mpr ⟨fun _ _ _ _ _ _ _ _ _ _ _ _ _ _ _ _ _ _ X => so_iconst (n := 1) X (by decide +kernel), ?_⟩
  refine List.forall_mem_cons.mpr ⟨fun _ _ _ _ _ _ _ _ _ _ _ _ _ _ _ _ _ _ X => so_isub X (by decide +kernel), ?_⟩
  refine List.forall_mem_cons.mpr ⟨fun _ _ _ _ _ _ _ _ _ _ _ _ _ _ _ _ _ _ X => so_iret X rfl (by decide +kernel), ?_⟩
  exact fun _ h => absurd h List.not_mem_nil
set_option maxRecDepth 100000 in
set_option maxHeartbeats 4000000 in
theorem sj_101 {L : Nat} {xs : Nat → Int32} : ∀ q ∈ cd_101, SJ L xs (md_101) q := by
  refine List.forall_mem_cons.mpr ⟨fun _ _ _ _ _ _ _ _ _ _ _ _ _ _ _ _ _ _ X => so_aload_n (k := 0) X (by decide +kernel), ?_⟩
  refine List.forall_mem_cons.mpr ⟨fun _ _ _ _ _ _ _ _ _ _ _ _ _ _ _ _ _ _ X => so_iload_n (k := 1) X (by decide +kernel), ?_⟩
  refine List.forall_mem_cons.mpr ⟨fun _ _ _ _ _ _ _ _ _ _ _ _ _ _ _ _ _ _ X => so_iconst (n := 0) X (by decide +kernel), ?_⟩
  refine List.forall_mem_cons.mpr ⟨fun _ _ _ _ _ _ _ _ _ _ _ _ _ _ _ _ _ _ X => so_aload_n (k := 0) X (by decide +kernel), ?_⟩
  refine List.forall_mem_cons.mpr ⟨fun _ _ _ _ _ _ _ _ _ _ _ _ _ _ _ _ _ _ X => so_getI (cn := 9) (k := 10) X rfl (by omega) wq_747 (fun _ _ => rfl) (by decide +kernel), ?_⟩
  refine List.forall_mem_cons.mpr ⟨fun _ _ _ _ _ _ _ _ _ _ _ _ _ _ _ _ _ _ X => so_iconst (n := 1) X (by decide +kernel), ?_⟩
  refine List.forall_mem_cons.mpr ⟨fun _ _ _ _ _ _ _ _ _ _ _ _ _ _ _ _ _ _ X => so_isub X (by decide +kernel), ?_⟩
  refine List.forall_mem_cons.mpr ⟨fun _ _ _ _ _ _ _ _ _ _ _ _ _ _ _ _ _ _ X => so_callS (i := 94) (n := 3) X rfl wq_813 wq_814 wq_43 wd_94 wc_94 (by decide +kernel), ?_⟩
  refine List.forall_mem_cons.mpr ⟨fun _ _ _ _ _ _ _ _ _ _ _ _ _ _ _ _ _ _ X => so_if_eq (off := 7) (tgt := 19) X (by decide +kernel) (by decide), ?_⟩
  refine List.forall_mem_cons.mpr ⟨fun _ _ _ _ _ _ _ _ _ _ _ _ _ _ _ _ _ _ X => so_iconst (n := 0) X (by decide +kernel), ?_⟩
  refine List.forall_mem_cons.mpr ⟨fun _ _ _ _ _ _ _ _ _ _ _ _ _ _ _ _ _ _ X => so_goto (off := 4) (tgt := 20) X (by decide +kernel) (by decide), ?_⟩
  refine List.forall_mem_cons.mpr ⟨fun _ _ _ _ _ _ _ _ _ _ _ _ _ _ _ _ _ _ X => so_iconst (n := 1) X (by decide +kernel), ?_⟩
  refine List.forall_mem_cons.mpr ⟨fun _ _ _ _ _ _ _ _ _ _ _ _ _ _ _ _ _ _ X => so_callV (i := 93) (cn := 9) (n := 1) X rfl rfl rfl wq_816 wq_818 ws_X10_holds wq_43 wd_93 wc_93 (by decide +kernel), ?_⟩
  refine List.forall_mem_cons.mpr ⟨fun _ _ _ _ _ _ _ _ _ _ _ _ _ _ _ _ _ _ X => so_if_ne (off := 5) (tgt := 28) X (by decide +kernel) (by decide), ?_⟩
  refine List.forall_mem_cons.mpr ⟨fun _ _ _ _ _ _ _ _ _ _ _ _ _ _ _ _ _ _ X => so_iconst (n := 0) X (by decide +kernel), ?_⟩
  refine List.forall_mem_cons.mpr ⟨fun _ _ _ _ _ _ _ _ _ _ _ _ _ _ _ _ _ _ X => so_zret X rfl (by decide +kernel), ?_⟩
  refine List.forall_mem_cons.mpr ⟨fun _ _ _ _ _ _ _ _ _ _ _ _ _ _ _ _ _ _ X => so_aload_n (k := 0) X (by decide +kernel), ?_⟩
  refine List.forall_mem_cons.mpr ⟨fun _ _ _ _ _ _ _ _ _ _ _ _ _ _ _ _ _ _ X => so_getR (cn := 9) (k := 9) X rfl (by omega) wq_746 (fun _ _ => rfl) (by decide +kernel), ?_⟩
  refine List.forall_mem_cons.mpr ⟨fun _ _ _ _ _ _ _ _ _ _ _ _ _ _ _ _ _ _ X => so_iload_n (k := 1) X (by decide +kernel), ?_⟩
  refine List.forall_mem_cons.mpr ⟨fun _ _ _ _ _ _ _ _ _ _ _ _ _ _ _ _ _ _ X => so_zald X (by decide +kernel), ?_⟩
  refine List.forall_mem_cons.mpr ⟨fun _ _ _ _ _ _ _ _ _ _ _ _ _ _ _ _ _ _ X => so_istore_n (k := 3) X (by decide +kernel), ?_⟩
  refine List.forall_mem_cons.mpr ⟨fun _ _ _ _ _ _ _ _ _ _ _ _ _ _ _ _ _ _ X => so_aload_n (k := 0) X (by decide +kernel), ?_⟩
  refine List.forall_mem_cons.mpr ⟨fun _ _ _ _ _ _ _ _ _ _ _ _ _ _ _ _ _ _ X => so_getR (cn := 9) (k := 9) X rfl (by omega) wq_746 (fun _ _ => rfl) (by decide +kernel), ?_⟩
  refine List.forall_mem_cons.mpr ⟨fun _ _ _ _ _ _ _ _ _ _ _ _ _ _ _ _ _ _ X => so_iload_n (k := 1) X (by decide +kernel), ?_⟩
  refine List.forall_mem_cons.mpr ⟨fun _ _ _ _ _ _ _ _ _ _ _ _ _ _ _ _ _ _ X => so_iload_n (k := 2) X (by decide +kernel), ?_⟩
  refine List.forall_mem_cons.mpr ⟨fun _ _ _ _ _ _ _ _ _ _ _ _ _ _ _ _ _ _ X => so_zast X (by decide +kernel), ?_⟩
  refine List.forall_mem_cons.mpr ⟨fun _ _ _ _ _ _ _ _ _ _ _ _ _ _ _ _ _ _ X => so_iload_n (k := 3) X (by decide +kernel), ?_⟩
  refine List.forall_mem_cons.mpr ⟨fun _ _ _ _ _ _ _ _ _ _ _ _ _ _ _ _ _ _ X => so_zret X rfl (by decide +kernel), ?_⟩
  exact fun _ h => absurd h List.not_mem_nil
set_option maxRecDepth 100000 in
set_option maxHeartbeats 4000000 in
theorem sj_102 {L : Nat} {xs : Nat → Int32} : ∀ q ∈ cd_102, SJ L xs (md_102) q := by
  refine List.forall_mem_cons.mpr ⟨fun _ _ _ _ _ _ _ _ _ _ _ _ _ _ _ _ _ _ X => so_aload_n (k := 0) X (by decide +kernel), ?_⟩
  refine List.forall_mem_cons.mpr ⟨fun _ _ _ _ _ _ _ _ _ _ _ _ _ _ _ _ _ _ X => so_aload_n (k := 0) X (by decide +kernel), ?_⟩
  refine List.forall_mem_cons.mpr ⟨fun _ _ _ _ _ _ _ _ _ _ _ _ _ _ _ _ _ _ X => so_getI (cn := 9) (k := 2) X rfl (by omega) wq_739 (fun _ _ => rfl) (by decide +kernel), ?_⟩
  refine List.forall_mem_cons.mpr ⟨fun _ _ _ _ _ _ _ _ _ _ _ _ _ _ _ _ _ _ X => so_if_eq (off := 11) (tgt := 16) X (by decide +kernel) (by decide), ?_⟩
  refine List.forall_mem_cons.mpr ⟨fun _ _ _ _ _ _ _ _ _ _ _ _ _ _ _ _ _ _ X => so_aload_n (k := 0) X (by decide +kernel), ?_⟩
  refine List.forall_mem_cons.mpr ⟨fun _ _ _ _ _ _ _ _ _ _ _ _ _ _ _ _ _ _ X => so_getI (cn := 9) (k := 13) X rfl (by omega) wq_750 (fun _ _ => rfl) (by decide +kernel), ?_⟩
  refine List.forall_mem_cons.mpr ⟨fun _ _ _ _ _ _ _ _ _ _ _ _ _ _ _ _ _ _ X => so_iconst (n := 5) X (by decide +kernel), ?_⟩
  refine List.forall_mem_cons.mpr ⟨fun _ _ _ _ _ _ _ _ _ _ _ _ _ _ _ _ _ _ X => so_icmp_ne (off := 7) (tgt := 20) X (by decide +kernel) (by decide), ?_⟩
  refine List.forall_mem_cons.mpr ⟨fun _ _ _ _ _ _ _ _ _ _ _ _ _ _ _ _ _ _ X => so_iconst (n := 1) X (by decide +kernel), ?_⟩
  refine List.forall_mem_cons.mpr ⟨fun _ _ _ _ _ _ _ _ _ _ _ _ _ _ _ _ _ _ X => so_goto (off := 4) (tgt := 21) X (by decide +kernel) (by decide), ?_⟩
  refine List.forall_mem_cons.mpr ⟨fun _ _ _ _ _ _ _ _ _ _ _ _ _ _ _ _ _ _ X => so_iconst (n := 0) X (by decide +kernel), ?_⟩
  refine List.forall_mem_cons.mpr ⟨fun _ _ _ _ _ _ _ _ _ _ _ _ _ _ _ _ _ _ X => so_callV (i := 93) (cn := 9) (n := 1) X rfl rfl rfl wq_816 wq_818 ws_X10_holds wq_43 wd_93 wc_93 (by decide +kernel), ?_⟩
  refine List.forall_mem_cons.mpr ⟨fun _ _ _ _ _ _ _ _ _ _ _ _ _ _ _ _ _ _ X => so_if_ne (off := 5) (tgt := 29) X (by decide +kernel) (by decide), ?_⟩
  refine List.forall_mem_cons.mpr ⟨fun _ _ _ _ _ _ _ _ _ _ _ _ _ _ _ _ _ _ X => so_iconst (n := 0) X (by decide +kernel), ?_⟩
  refine List.forall_mem_cons.mpr ⟨fun _ _ _ _ _ _ _ _ _ _ _ _ _ _ _ _ _ _ X => so_iret X rfl (by decide +kernel), ?_⟩
  refine List.forall_mem_cons.mpr ⟨fun _ _ _ _ _ _ _ _ _ _ _ _ _ _ _ _ _ _ X => so_aload_n (k := 0) X (by decide +kernel), ?_⟩
  refine List.forall_mem_cons.mpr ⟨fun _ _ _ _ _ _ _ _ _ _ _ _ _ _ _ _ _ _ X => so_getR (cn := 9) (k := 11) X rfl (by omega) wq_748 (fun _ _ => rfl) (by decide +kernel), ?_⟩
  refine List.forall_mem_cons.mpr ⟨fun _ _ _ _ _ _ _ _ _ _ _ _ _ _ _ _ _ _ X => so_aload_n (k := 0) X (by decide +kernel), ?_⟩
  refine List.forall_mem_cons.mpr ⟨fun _ _ _ _ _ _ _ _ _ _ _ _ _ _ _ _ _ _ X => so_getI (cn := 9) (k := 13) X rfl (by omega) wq_750 (fun _ _ => rfl) (by decide +kernel), ?_⟩
  refine List.forall_mem_cons.mpr ⟨fun _ _ _ _ _ _ _ _ _ _ _ _ _ _ _ _ _ _ X => so_aload_n (k := 0) X (by decide +kernel), ?_⟩
  refine List.forall_mem_cons.mpr ⟨fun _ _ _ _ _ _ _ _ _ _ _ _ _ _ _ _ _ _ X => so_callV (i := 98) (cn := 9) (n := 0) X rfl rfl rfl wq_827 wq_829 ws_X10_takes wq_43 wd_98 wc_98 (by decide +kernel), ?_⟩
  refine List.forall_mem_cons.mpr ⟨fun _ _ _ _ _ _ _ _ _ _ _ _ _ _ _ _ _ _ X => so_iast X (by decide +kernel), ?_⟩
  refine List.forall_mem_cons.mpr ⟨fun _ _ _ _ _ _ _ _ _ _ _ _ _ _ _ _ _ _ X => so_aload_n (k := 0) X (by decide +kernel), ?_⟩
  refine List.forall_mem_cons.mpr ⟨fun _ _ _ _ _ _ _ _ _ _ _ _ _ _ _ _ _ _ X => so_getR (cn := 9) (k := 12) X rfl (by omega) wq_749 (fun _ _ => rfl) (by decide +kernel), ?_⟩
  refine List.forall_mem_cons.mpr ⟨fun _ _ _ _ _ _ _ _ _ _ _ _ _ _ _ _ _ _ X => so_aload_n (k := 0) X (by decide +kernel), ?_⟩
  refine List.forall_mem_cons.mpr ⟨fun _ _ _ _ _ _ _ _ _ _ _ _ _ _ _ _ _ _ X => so_getI (cn := 9) (k := 13) X rfl (by omega) wq_750 (fun _ _ => rfl) (by decide +kernel), ?_⟩
  refine List.forall_mem_cons.mpr ⟨fun _ _ _ _ _ _ _ _ _ _ _ _ _ _ _ _ _ _ X => so_iconst (n := (-1)) X (by decide +kernel), ?_⟩
  refine List.forall_mem_cons.mpr ⟨fun _ _ _ _ _ _ _ _ _ _ _ _ _ _ _ _ _ _ X => so_iast X (by decide +kernel), ?_⟩
  refine List.forall_mem_cons.mpr ⟨fun _ _ _ _ _ _ _ _ _ _ _ _ _ _ _ _ _ _ X => so_aload_n (k := 0) X (by decide +kernel), ?_⟩
  refine List.forall_mem_cons.mpr ⟨fun _ _ _ _ _ _ _ _ _ _ _ _ _ _ _ _ _ _ X => so_dup X (by decide +kernel), ?_⟩
  refine List.forall_mem_cons.mpr ⟨fun _ _ _ _ _ _ _ _ _ _ _ _ _ _ _ _ _ _ X => so_getI (cn := 9) (k := 13) X rfl (by omega) wq_750 (fun _ _ => rfl) (by decide +kernel), ?_⟩
  refine List.forall_mem_cons.mpr ⟨fun _ _ _ _ _ _ _ _ _ _ _ _ _ _ _ _ _ _ X => so_iconst (n := 1) X (by decide +kernel), ?_⟩
  refine List.forall_mem_cons.mpr ⟨fun _ _ _ _ _ _ _ _ _ _ _ _ _ _ _ _ _ _ X => so_iadd X (by decide +kernel), ?_⟩
  refine List.forall_mem_cons.mpr ⟨fun _ _ _ _ _ _ _ _ _ _ _ _ _ _ _ _ _ _ X => so_putI (cn := 9) (k := 13) X rfl (by omega) (Or.inl wq_750) rfl rfl (by decide +kernel), ?_⟩
  refine List.forall_mem_cons.mpr ⟨fun _ _ _ _ _ _ _ _ _ _ _ _ _ _ _ _ _ _ X => so_aload_n (k := 0) X (by decide +kernel), ?_⟩
  refine List.forall_mem_cons.mpr ⟨fun _ _ _ _ _ _ _ _ _ _ _ _ _ _ _ _ _ _ X => so_getI (cn := 9) (k := 13) X rfl (by omega) wq_750 (fun _ _ => rfl) (by decide +kernel), ?_⟩
  refine List.forall_mem_cons.mpr ⟨fun _ _ _ _ _ _ _ _ _ _ _ _ _ _ _ _ _ _ X => so_iret X rfl (by decide +kernel), ?_⟩
  exact fun _ h => absurd h List.not_mem_nil
set_option maxRecDepth 100000 in
set_option maxHeartbeats 4000000 in
theorem sj_103 {L : Nat} {xs : Nat → Int32} : ∀ q ∈ cd_103, SJ L xs (md_103) q := by
  refine List.forall_mem_cons.mpr ⟨fun _ _ _ _ _ _ _ _ _ _ _ _ _ _ _ _ _ _ X => so_aload_n (k := 0) X (by decide +kernel), ?_⟩
  refine List.forall_mem_cons.mpr ⟨fun _ _ _ _ _ _ _ _ _ _ _ _ _ _ _ _ _ _ X => so_iconst (n := 0) X (by decide +kernel), ?_⟩
  refine List.forall_mem_cons.mpr ⟨fun _ _ _ _ _ _ _ _ _ _ _ _ _ _ _ _ _ _ X => so_putI (cn := 9) (k := 0) X rfl (by omega) (Or.inl wq_737) rfl rfl (by decide +kernel), ?_⟩
  refine List.forall_mem_cons.mpr ⟨fun _ _ _ _ _ _ _ _ _ _ _ _ _ _ _ _ _ _ X => so_aload_n (k := 0) X (by decide +kernel), ?_⟩
  refine List.forall_mem_cons.mpr ⟨fun _ _ _ _ _ _ _ _ _ _ _ _ _ _ _ _ _ _ X => so_getI (cn := 9) (k := 13) X rfl (by omega) wq_750 (fun _ _ => rfl) (by decide +kernel), ?_⟩
  refine List.forall_mem_cons.mpr ⟨fun _ _ _ _ _ _ _ _ _ _ _ _ _ _ _ _ _ _ X => so_istore_n (k := 1) X (by decide +kernel), ?_⟩
  refine List.forall_mem_cons.mpr ⟨fun _ _ _ _ _ _ _ _ _ _ _ _ _ _ _ _ _ _ X => so_aload_n (k := 0) X (by decide +kernel), ?_⟩
  refine List.forall_mem_cons.mpr ⟨fun _ _ _ _ _ _ _ _ _ _ _ _ _ _ _ _ _ _ X => so_iconst (n := 0) X (by decide +kernel), ?_⟩
  refine List.forall_mem_cons.mpr ⟨fun _ _ _ _ _ _ _ _ _ _ _ _ _ _ _ _ _ _ X => so_putI (cn := 9) (k := 13) X rfl (by omega) (Or.inl wq_750) rfl rfl (by decide +kernel), ?_⟩
  refine List.forall_mem_cons.mpr ⟨fun _ _ _ _ _ _ _ _ _ _ _ _ _ _ _ _ _ _ X => so_iload_n (k := 1) X (by decide +kernel), ?_⟩
  refine List.forall_mem_cons.mpr ⟨fun _ _ _ _ _ _ _ _ _ _ _ _ _ _ _ _ _ _ X => so_iret X rfl (by decide +kernel), ?_⟩
  exact fun _ h => absurd h List.not_mem_nil
set_option maxRecDepth 100000 in
set_option maxHeartbeats 4000000 in
theorem sj_104 {L : Nat} {xs : Nat → Int32} : ∀ q ∈ cd_104, SJ L xs (md_104) q := by
  refine List.forall_mem_cons.mpr ⟨fun _ _ _ _ _ _ _ _ _ _ _ _ _ _ _ _ _ _ X => so_aload_n (k := 0) X (by decide +kernel), ?_⟩
  refine List.forall_mem_cons.mpr ⟨fun _ _ _ _ _ _ _ _ _ _ _ _ _ _ _ _ _ _ X => so_aload_n (k := 0) X (by decide +kernel), ?_⟩
  refine List.forall_mem_cons.mpr ⟨fun _ _ _ _ _ _ _ _ _ _ _ _ _ _ _ _ _ _ X => so_iload_n (k := 1) X (by decide +kernel), ?_⟩
  refine List.forall_mem_cons.mpr ⟨fun _ _ _ _ _ _ _ _ _ _ _ _ _ _ _ _ _ _ X => so_callV (i := 96) (cn := 9) (n := 1) X rfl rfl rfl wq_851 wq_853 ws_X10_isPlace wq_43 wd_96 wc_96 (by decide +kernel), ?_⟩
  refine List.forall_mem_cons.mpr ⟨fun _ _ _ _ _ _ _ _ _ _ _ _ _ _ _ _ _ _ X => so_if_eq (off := 16) (tgt := 22) X (by decide +kernel) (by decide), ?_⟩
  refine List.forall_mem_cons.mpr ⟨fun _ _ _ _ _ _ _ _ _ _ _ _ _ _ _ _ _ _ X => so_iload_n (k := 2) X (by decide +kernel), ?_⟩
  refine List.forall_mem_cons.mpr ⟨fun _ _ _ _ _ _ _ _ _ _ _ _ _ _ _ _ _ _ X => so_iconst (n := (-1)) X (by decide +kernel), ?_⟩
  refine List.forall_mem_cons.mpr ⟨fun _ _ _ _ _ _ _ _ _ _ _ _ _ _ _ _ _ _ X => so_iconst (n := 4) X (by decide +kernel), ?_⟩
  refine List.forall_mem_cons.mpr ⟨fun _ _ _ _ _ _ _ _ _ _ _ _ _ _ _ _ _ _ X => so_callS (i := 94) (n := 3) X rfl wq_813 wq_814 wq_43 wd_94 wc_94 (by decide +kernel), ?_⟩
  refine List.forall_mem_cons.mpr ⟨fun _ _ _ _ _ _ _ _ _ _ _ _ _ _ _ _ _ _ X => so_if_eq (off := 7) (tgt := 22) X (by decide +kernel) (by decide), ?_⟩
  refine List.forall_mem_cons.mpr ⟨fun _ _ _ _ _ _ _ _ _ _ _ _ _ _ _ _ _ _ X => so_iconst (n := 0) X (by decide +kernel), ?_⟩
  refine List.forall_mem_cons.mpr ⟨fun _ _ _ _ _ _ _ _ _ _ _ _ _ _ _ _ _ _ X => so_goto (off := 4) (tgt := 23) X (by decide +kernel) (by decide), ?_⟩
  refine List.forall_mem_cons.mpr ⟨fun _ _ _ _ _ _ _ _ _ _ _ _ _ _ _ _ _ _ X => so_iconst (n := 1) X (by decide +kernel), ?_⟩
  refine List.forall_mem_cons.mpr ⟨fun _ _ _ _ _ _ _ _ _ _ _ _ _ _ _ _ _ _ X => so_callV (i := 93) (cn := 9) (n := 1) X rfl rfl rfl wq_816 wq_818 ws_X10_holds wq_43 wd_93 wc_93 (by decide +kernel), ?_⟩
  refine List.forall_mem_cons.mpr ⟨fun _ _ _ _ _ _ _ _ _ _ _ _ _ _ _ _ _ _ X => so_if_ne (off := 5) (tgt := 31) X (by decide +kernel) (by decide), ?_⟩
  refine List.forall_mem_cons.mpr ⟨fun _ _ _ _ _ _ _ _ _ _ _ _ _ _ _ _ _ _ X => so_iconst (n := 0) X (by decide +kernel), ?_⟩
  refine List.forall_mem_cons.mpr ⟨fun _ _ _ _ _ _ _ _ _ _ _ _ _ _ _ _ _ _ X => so_iret X rfl (by decide +kernel), ?_⟩
  refine List.forall_mem_cons.mpr ⟨fun _ _ _ _ _ _ _ _ _ _ _ _ _ _ _ _ _ _ X => so_aload_n (k := 0) X (by decide +kernel), ?_⟩
  refine List.forall_mem_cons.mpr ⟨fun _ _ _ _ _ _ _ _ _ _ _ _ _ _ _ _ _ _ X => so_getR (cn := 9) (k := 12) X rfl (by omega) wq_749 (fun _ _ => rfl) (by decide +kernel), ?_⟩
  refine List.forall_mem_cons.mpr ⟨fun _ _ _ _ _ _ _ _ _ _ _ _ _ _ _ _ _ _ X => so_iload_n (k := 1) X (by decide +kernel), ?_⟩
  refine List.forall_mem_cons.mpr ⟨fun _ _ _ _ _ _ _ _ _ _ _ _ _ _ _ _ _ _ X => so_iald X (by decide +kernel), ?_⟩
  refine List.forall_mem_cons.mpr ⟨fun _ _ _ _ _ _ _ _ _ _ _ _ _ _ _ _ _ _ X => so_istore_n (k := 3) X (by decide +kernel), ?_⟩
  refine List.forall_mem_cons.mpr ⟨fun _ _ _ _ _ _ _ _ _ _ _ _ _ _ _ _ _ _ X => so_aload_n (k := 0) X (by decide +kernel), ?_⟩
  refine List.forall_mem_cons.mpr ⟨fun _ _ _ _ _ _ _ _ _ _ _ _ _ _ _ _ _ _ X => so_getR (cn := 9) (k := 12) X rfl (by omega) wq_749 (fun _ _ => rfl) (by decide +kernel), ?_⟩
  refine List.forall_mem_cons.mpr ⟨fun _ _ _ _ _ _ _ _ _ _ _ _ _ _ _ _ _ _ X => so_iload_n (k := 1) X (by decide +kernel), ?_⟩
  refine List.forall_mem_cons.mpr ⟨fun _ _ _ _ _ _ _ _ _ _ _ _ _ _ _ _ _ _ X => so_iload_n (k := 2) X (by decide +kernel), ?_⟩
  refine List.forall_mem_cons.mpr ⟨fun _ _ _ _ _ _ _ _ _ _ _ _ _ _ _ _ _ _ X => so_iast X (by decide +kernel), ?_⟩
  refine List.forall_mem_cons.mpr ⟨fun _ _ _ _ _ _ _ _ _ _ _ _ _ _ _ _ _ _ X => so_iload_n (k := 3) X (by decide +kernel), ?_⟩
  refine List.forall_mem_cons.mpr ⟨fun _ _ _ _ _ _ _ _ _ _ _ _ _ _ _ _ _ _ X => so_iret X rfl (by decide +kernel), ?_⟩
  exact fun _ h => absurd h List.not_mem_nil
set_option maxRecDepth 100000 in
set_option maxHeartbeats 4000000 in
theorem sj_105 {L : Nat} {xs : Nat → Int32} : ∀ q ∈ cd_105, SJ L xs (md_105) q := by
  refine List.forall_mem_cons.mpr ⟨fun _ _ _ _ _ _ _ _ _ _ _ _ _ _ _ _ _ _ X => so_iconst (n := 0) X (by decide +kernel), ?_⟩
  refine List.forall_mem_cons.mpr ⟨fun _ _ _ _ _ _ _ _ _ _ _ _ _ _ _ _ _ _ X => so_istore (k := 4) X (by decide +kernel), ?_⟩
  refine List.forall_mem_cons.mpr ⟨fun _ _ _ _ _ _ _ _ _ _ _ _ _ _ _ _ _ _ X => so_iconst (n := 0) X (by decide +kernel), ?_⟩
  refine List.forall_mem_cons.mpr ⟨fun _ _ _ _ _ _ _ _ _ _ _ _ _ _ _ _ _ _ X => so_istore (k := 5) X (by decide +kernel), ?_⟩
  refine List.forall_mem_cons.mpr ⟨fun _ _ _ _ _ _ _ _ _ _ _ _ _ _ _ _ _ _ X => so_iload (k := 5) X (by decide +kernel), ?_⟩
  refine List.forall_mem_cons.mpr ⟨fun _ _ _ _ _ _ _ _ _ _ _ _ _ _ _ _ _ _ X => so_aload_n (k := 0) X (by decide +kernel), ?_⟩
  refine List.forall_mem_cons.mpr ⟨fun _ _ _ _ _ _ _ _ _ _ _ _ _ _ _ _ _ _ X => so_getI (cn := 9) (k := 10) X rfl (by omega) wq_747 (fun _ _ => rfl) (by decide +kernel), ?_⟩
  refine List.forall_mem_cons.mpr ⟨fun _ _ _ _ _ _ _ _ _ _ _ _ _ _ _ _ _ _ X => so_icmp_ge (off := 91) (tgt := 103) X (by decide +kernel) (by decide), ?_⟩
  refine List.forall_mem_cons.mpr ⟨fun _ _ _ _ _ _ _ _ _ _ _ _ _ _ _ _ _ _ X => so_bipush (n := 6) X (by decide +kernel) (by decide +kernel), ?_⟩
  refine List.forall_mem_cons.mpr ⟨fun _ _ _ _ _ _ _ _ _ _ _ _ _ _ _ _ _ _ X => so_iload (k := 5) X (by decide +kernel), ?_⟩
  refine List.forall_mem_cons.mpr ⟨fun _ _ _ _ _ _ _ _ _ _ _ _ _ _ _ _ _ _ X => so_imul X (by decide +kernel), ?_⟩
  refine List.forall_mem_cons.mpr ⟨fun _ _ _ _ _ _ _ _ _ _ _ _ _ _ _ _ _ _ X => so_istore (k := 6) X (by decide +kernel), ?_⟩
  refine List.forall_mem_cons.mpr ⟨fun _ _ _ _ _ _ _ _ _ _ _ _ _ _ _ _ _ _ X => so_iload (k := 6) X (by decide +kernel), ?_⟩
  refine List.forall_mem_cons.mpr ⟨fun _ _ _ _ _ _ _ _ _ _ _ _ _ _ _ _ _ _ X => so_bipush (n := 6) X (by decide +kernel) (by decide +kernel), ?_⟩
  refine List.forall_mem_cons.mpr ⟨fun _ _ _ _ _ _ _ _ _ _ _ _ _ _ _ _ _ _ X => so_iload (k := 5) X (by decide +kernel), ?_⟩
  refine List.forall_mem_cons.mpr ⟨fun _ _ _ _ _ _ _ _ _ _ _ _ _ _ _ _ _ _ X => so_imul X (by decide +kernel), ?_⟩
  refine List.forall_mem_cons.mpr ⟨fun _ _ _ _ _ _ _ _ _ _ _ _ _ _ _ _ _ _ X => so_aload_n (k := 0) X (by decide +kernel), ?_⟩
  refine List.forall_mem_cons.mpr ⟨fun _ _ _ _ _ _ _ _ _ _ _ _ _ _ _ _ _ _ X => so_getR (cn := 9) (k := 8) X rfl (by omega) wq_745 (fun _ _ => rfl) (by decide +kernel), ?_⟩
  refine List.forall_mem_cons.mpr ⟨fun _ _ _ _ _ _ _ _ _ _ _ _ _ _ _ _ _ _ X => so_iload (k := 5) X (by decide +kernel), ?_⟩
  refine List.forall_mem_cons.mpr ⟨fun _ _ _ _ _ _ _ _ _ _ _ _ _ _ _ _ _ _ X => so_iald X (by decide +kernel), ?_⟩
  refine List.forall_mem_cons.mpr ⟨fun _ _ _ _ _ _ _ _ _ _ _ _ _ _ _ _ _ _ X => so_iadd X (by decide +kernel), ?_⟩
  refine List.forall_mem_cons.mpr ⟨fun _ _ _ _ _ _ _ _ _ _ _ _ _ _ _ _ _ _ X => so_icmp_ge (off := 60) (tgt := 97) X (by decide +kernel) (by decide), ?_⟩
  refine List.forall_mem_cons.mpr ⟨fun _ _ _ _ _ _ _ _ _ _ _ _ _ _ _ _ _ _ X => so_aload_n (k := 0) X (by decide +kernel), ?_⟩
  refine List.forall_mem_cons.mpr ⟨fun _ _ _ _ _ _ _ _ _ _ _ _ _ _ _ _ _ _ X => so_getR (cn := 9) (k := 9) X rfl (by omega) wq_746 (fun _ _ => rfl) (by decide +kernel), ?_⟩
  refine List.forall_mem_cons.mpr ⟨fun _ _ _ _ _ _ _ _ _ _ _ _ _ _ _ _ _ _ X => so_iload (k := 5) X (by decide +kernel), ?_⟩
  refine List.forall_mem_cons.mpr ⟨fun _ _ _ _ _ _ _ _ _ _ _ _ _ _ _ _ _ _ X => so_zald X (by decide +kernel), ?_⟩
  refine List.forall_mem_cons.mpr ⟨fun _ _ _ _ _ _ _ _ _ _ _ _ _ _ _ _ _ _ X => so_if_eq (off := 50) (tgt := 97) X (by decide +kernel) (by decide), ?_⟩
  refine List.forall_mem_cons.mpr ⟨fun _ _ _ _ _ _ _ _ _ _ _ _ _ _ _ _ _ _ X => so_iload (k := 4) X (by decide +kernel), ?_⟩
  refine List.forall_mem_cons.mpr ⟨fun _ _ _ _ _ _ _ _ _ _ _ _ _ _ _ _ _ _ X => so_aload_n (k := 0) X (by decide +kernel), ?_⟩
  refine List.forall_mem_cons.mpr ⟨fun _ _ _ _ _ _ _ _ _ _ _ _ _ _ _ _ _ _ X => so_getR (cn := 9) (k := 6) X rfl (by omega) wq_743 (fun _ _ => rfl) (by decide +kernel), ?_⟩
  refine List.forall_mem_cons.mpr ⟨fun _ _ _ _ _ _ _ _ _ _ _ _ _ _ _ _ _ _ X => so_iload (k := 6) X (by decide +kernel), ?_⟩
  refine List.forall_mem_cons.mpr ⟨fun _ _ _ _ _ _ _ _ _ _ _ _ _ _ _ _ _ _ X => so_iald X (by decide +kernel), ?_⟩
  refine List.forall_mem_cons.mpr ⟨fun _ _ _ _ _ _ _ _ _ _ _ _ _ _ _ _ _ _ X => so_iload_n (k := 2) X (by decide +kernel), ?_⟩
  refine List.forall_mem_cons.mpr ⟨fun _ _ _ _ _ _ _ _ _ _ _ _ _ _ _ _ _ _ X => so_irem X (by decide +kernel), ?_⟩
  refine List.forall_mem_cons.mpr ⟨fun _ _ _ _ _ _ _ _ _ _ _ _ _ _ _ _ _ _ X => so_iload_n (k := 1) X (by decide +kernel), ?_⟩
  refine List.forall_mem_cons.mpr ⟨fun _ _ _ _ _ _ _ _ _ _ _ _ _ _ _ _ _ _ X => so_iload_n (k := 2) X (by decide +kernel), ?_⟩
  refine List.forall_mem_cons.mpr ⟨fun _ _ _ _ _ _ _ _ _ _ _ _ _ _ _ _ _ _ X => so_irem X (by decide +kernel), ?_⟩
  refine List.forall_mem_cons.mpr ⟨fun _ _ _ _ _ _ _ _ _ _ _ _ _ _ _ _ _ _ X => so_icmp_ne (off := 23) (tgt := 87) X (by decide +kernel) (by decide), ?_⟩
  refine List.forall_mem_cons.mpr ⟨fun _ _ _ _ _ _ _ _ _ _ _ _ _ _ _ _ _ _ X => so_iload_n (k := 3) X (by decide +kernel), ?_⟩
  refine List.forall_mem_cons.mpr ⟨fun _ _ _ _ _ _ _ _ _ _ _ _ _ _ _ _ _ _ X => so_iconst (n := (-1)) X (by decide +kernel), ?_⟩
  refine List.forall_mem_cons.mpr ⟨fun _ _ _ _ _ _ _ _ _ _ _ _ _ _ _ _ _ _ X => so_icmp_eq (off := 14) (tgt := 83) X (by decide +kernel) (by decide), ?_⟩
  refine List.forall_mem_cons.mpr ⟨fun _ _ _ _ _ _ _ _ _ _ _ _ _ _ _ _ _ _ X => so_aload_n (k := 0) X (by decide +kernel), ?_⟩
  refine List.forall_mem_cons.mpr ⟨fun _ _ _ _ _ _ _ _ _ _ _ _ _ _ _ _ _ _ X => so_getR (cn := 9) (k := 7) X rfl (by omega) wq_744 (fun _ _ => rfl) (by decide +kernel), ?_⟩
  refine List.forall_mem_cons.mpr ⟨fun _ _ _ _ _ _ _ _ _ _ _ _ _ _ _ _ _ _ X => so_iload (k := 6) X (by decide +kernel), ?_⟩
  refine List.forall_mem_cons.mpr ⟨fun _ _ _ _ _ _ _ _ _ _ _ _ _ _ _ _ _ _ X => so_iald X (by decide +kernel), ?_⟩
  refine List.forall_mem_cons.mpr ⟨fun _ _ _ _ _ _ _ _ _ _ _ _ _ _ _ _ _ _ X => so_iload_n (k := 3) X (by decide +kernel), ?_⟩
  refine List.forall_mem_cons.mpr ⟨fun _ _ _ _ _ _ _ _ _ _ _ _ _ _ _ _ _ _ X => so_icmp_ne (off := 7) (tgt := 87) X (by decide +kernel) (by decide), ?_⟩
  refine List.forall_mem_cons.mpr ⟨fun _ _ _ _ _ _ _ _ _ _ _ _ _ _ _ _ _ _ X => so_iconst (n := 1) X (by decide +kernel), ?_⟩
  refine List.forall_mem_cons.mpr ⟨fun _ _ _ _ _ _ _ _ _ _ _ _ _ _ _ _ _ _ X => so_goto (off := 4) (tgt := 88) X (by decide +kernel) (by decide), ?_⟩
  refine List.forall_mem_cons.mpr ⟨fun _ _ _ _ _ _ _ _ _ _ _ _ _ _ _ _ _ _ X => so_iconst (n := 0) X (by decide +kernel), ?_⟩
  refine List.forall_mem_cons.mpr ⟨fun _ _ _ _ _ _ _ _ _ _ _ _ _ _ _ _ _ _ X => so_iadd X (by decide +kernel), ?_⟩
  refine List.forall_mem_cons.mpr ⟨fun _ _ _ _ _ _ _ _ _ _ _ _ _ _ _ _ _ _ X => so_istore (k := 4) X (by decide +kernel), ?_⟩
  refine List.forall_mem_cons.mpr ⟨fun _ _ _ _ _ _ _ _ _ _ _ _ _ _ _ _ _ _ X => so_iinc (k := 6) (n := 1) X (by decide +kernel), ?_⟩
  refine List.forall_mem_cons.mpr ⟨fun _ _ _ _ _ _ _ _ _ _ _ _ _ _ _ _ _ _ X => so_goto (off := -72) (tgt := 22) X (by decide +kernel) (by decide), ?_⟩
  refine List.forall_mem_cons.mpr ⟨fun _ _ _ _ _ _ _ _ _ _ _ _ _ _ _ _ _ _ X => so_iinc (k := 5) (n := 1) X (by decide +kernel), ?_⟩
  refine List.forall_mem_cons.mpr ⟨fun _ _ _ _ _ _ _ _ _ _ _ _ _ _ _ _ _ _ X => so_goto (off := -94) (tgt := 6) X (by decide +kernel) (by decide), ?_⟩
  refine List.forall_mem_cons.mpr ⟨fun _ _ _ _ _ _ _ _ _ _ _ _ _ _ _ _ _ _ X => so_iload (k := 4) X (by decide +kernel), ?_⟩
  refine List.forall_mem_cons.mpr ⟨fun _ _ _ _ _ _ _ _ _ _ _ _ _ _ _ _ _ _ X => so_iret X rfl (by decide +kernel), ?_⟩
  exact fun _ h => absurd h List.not_mem_nil
set_option maxRecDepth 100000 in
set_option maxHeartbeats 4000000 in
theorem sj_106 {L : Nat} {xs : Nat → Int32} : ∀ q ∈ cd_106, SJ L xs (md_106) q := by
  refine List.forall_mem_cons.mpr ⟨fun _ _ _ _ _ _ _ _ _ _ _ _ _ _ _ _ _ _ X => so_iload_n (k := 0) X (by decide +kernel), ?_⟩
  refine List.forall_mem_cons.mpr ⟨fun _ _ _ _ _ _ _ _ _ _ _ _ _ _ _ _ _ _ X => so_iload_n (k := 1) X (by decide +kernel), ?_⟩
  refine List.forall_mem_cons.mpr ⟨fun _ _ _ _ _ _ _ _ _ _ _ _ _ _ _ _ _ _ X => so_icmp_le (off := 7) (tgt := 9) X (by decide +kernel) (by decide), ?_⟩
  refine List.forall_mem_cons.mpr ⟨fun _ _ _ _ _ _ _ _ _ _ _ _ _ _ _ _ _ _ X => so_iload_n (k := 1) X (by decide +kernel), ?_⟩
  refine List.forall_mem_cons.mpr ⟨fun _ _ _ _ _ _ _ _ _ _ _ _ _ _ _ _ _ _ X => so_goto (off := 4) (tgt := 10) X (by decide +kernel) (by decide), ?_⟩
  refine List.forall_mem_cons.mpr ⟨fun _ _ _ _ _ _ _ _ _ _ _ _ _ _ _ _ _ _ X => so_iload_n (k := 0) X (by decide +kernel), ?_⟩
  refine List.forall_mem_cons.mpr ⟨fun _ _ _ _ _ _ _ _ _ _ _ _ _ _ _ _ _ _ X => so_iret X rfl (by decide +kernel), ?_⟩
  exact fun _ h => absurd h List.not_mem_nil
set_option maxRecDepth 100000 in
set_option maxHeartbeats 4000000 in
theorem sj_107 {L : Nat} {xs : Nat → Int32} : ∀ q ∈ cd_107, SJ L xs (md_107) q := by
  refine List.forall_mem_cons.mpr ⟨fun _ _ _ _ _ _ _ _ _ _ _ _ _ _ _ _ _ _ X => so_ldc (n := 387420489) (i := 88) X wq_863 (by decide +kernel), ?_⟩
  refine List.forall_mem_cons.mpr ⟨fun _ _ _ _ _ _ _ _ _ _ _ _ _ _ _ _ _ _ X => so_istore_n (k := 3) X (by decide +kernel), ?_⟩
  refine List.forall_mem_cons.mpr ⟨fun _ _ _ _ _ _ _ _ _ _ _ _ _ _ _ _ _ _ X => so_aload_n (k := 0) X (by decide +kernel), ?_⟩
  refine List.forall_mem_cons.mpr ⟨fun _ _ _ _ _ _ _ _ _ _ _ _ _ _ _ _ _ _ X => so_iload_n (k := 1) X (by decide +kernel), ?_⟩
  refine List.forall_mem_cons.mpr ⟨fun _ _ _ _ _ _ _ _ _ _ _ _ _ _ _ _ _ _ X => so_iload_n (k := 3) X (by decide +kernel), ?_⟩
  refine List.forall_mem_cons.mpr ⟨fun _ _ _ _ _ _ _ _ _ _ _ _ _ _ _ _ _ _ X => so_iconst (n := (-1)) X (by decide +kernel), ?_⟩
  refine List.forall_mem_cons.mpr ⟨fun _ _ _ _ _ _ _ _ _ _ _ _ _ _ _ _ _ _ X => so_callV (i := 105) (cn := 9) (n := 3) X rfl rfl rfl wq_864 wq_866 ws_X10_often wq_43 wd_105 wc_105 (by decide +kernel), ?_⟩
  refine List.forall_mem_cons.mpr ⟨fun _ _ _ _ _ _ _ _ _ _ _ _ _ _ _ _ _ _ X => so_if_le (off := 20) (tgt := 30) X (by decide +kernel) (by decide), ?_⟩
  refine List.forall_mem_cons.mpr ⟨fun _ _ _ _ _ _ _ _ _ _ _ _ _ _ _ _ _ _ X => so_iconst (n := 4) X (by decide +kernel), ?_⟩
  refine List.forall_mem_cons.mpr ⟨fun _ _ _ _ _ _ _ _ _ _ _ _ _ _ _ _ _ _ X => so_aload_n (k := 0) X (by decide +kernel), ?_⟩
  refine List.forall_mem_cons.mpr ⟨fun _ _ _ _ _ _ _ _ _ _ _ _ _ _ _ _ _ _ X => so_iload_n (k := 1) X (by decide +kernel), ?_⟩
  refine List.forall_mem_cons.mpr ⟨fun _ _ _ _ _ _ _ _ _ _ _ _ _ _ _ _ _ _ X => so_iload_n (k := 3) X (by decide +kernel), ?_⟩
  refine List.forall_mem_cons.mpr ⟨fun _ _ _ _ _ _ _ _ _ _ _ _ _ _ _ _ _ _ X => so_iload_n (k := 2) X (by decide +kernel), ?_⟩
  refine List.forall_mem_cons.mpr ⟨fun _ _ _ _ _ _ _ _ _ _ _ _ _ _ _ _ _ _ X => so_callV (i := 105) (cn := 9) (n := 3) X rfl rfl rfl wq_864 wq_866 ws_X10_often wq_43 wd_105 wc_105 (by decide +kernel), ?_⟩
  refine List.forall_mem_cons.mpr ⟨fun _ _ _ _ _ _ _ _ _ _ _ _ _ _ _ _ _ _ X => so_imul X (by decide +kernel), ?_⟩
  refine List.forall_mem_cons.mpr ⟨fun _ _ _ _ _ _ _ _ _ _ _ _ _ _ _ _ _ _ X => so_iconst (n := 1) X (by decide +kernel), ?_⟩
  refine List.forall_mem_cons.mpr ⟨fun _ _ _ _ _ _ _ _ _ _ _ _ _ _ _ _ _ _ X => so_iadd X (by decide +kernel), ?_⟩
  refine List.forall_mem_cons.mpr ⟨fun _ _ _ _ _ _ _ _ _ _ _ _ _ _ _ _ _ _ X => so_bipush (n := 9) X (by decide +kernel) (by decide +kernel), ?_⟩
  refine List.forall_mem_cons.mpr ⟨fun _ _ _ _ _ _ _ _ _ _ _ _ _ _ _ _ _ _ X => so_callS (i := 106) (n := 2) X rfl wq_868 wq_869 wq_43 wd_106 wc_106 (by decide +kernel), ?_⟩
  refine List.forall_mem_cons.mpr ⟨fun _ _ _ _ _ _ _ _ _ _ _ _ _ _ _ _ _ _ X => so_iret X rfl (by decide +kernel), ?_⟩
  refine List.forall_mem_cons.mpr ⟨fun _ _ _ _ _ _ _ _ _ _ _ _ _ _ _ _ _ _ X => so_sipush (n := 19683) X (by decide +kernel) (by decide +kernel), ?_⟩
  refine List.forall_mem_cons.mpr ⟨fun _ _ _ _ _ _ _ _ _ _ _ _ _ _ _ _ _ _ X => so_istore (k := 4) X (by decide +kernel), ?_⟩
  refine List.forall_mem_cons.mpr ⟨fun _ _ _ _ _ _ _ _ _ _ _ _ _ _ _ _ _ _ X => so_iload (k := 4) X (by decide +kernel), ?_⟩
  refine List.forall_mem_cons.mpr ⟨fun _ _ _ _ _ _ _ _ _ _ _ _ _ _ _ _ _ _ X => so_iconst (n := 1) X (by decide +kernel), ?_⟩
  refine List.forall_mem_cons.mpr ⟨fun _ _ _ _ _ _ _ _ _ _ _ _ _ _ _ _ _ _ X => so_icmp_le (off := 55) (tgt := 93) X (by decide +kernel) (by decide), ?_⟩
  refine List.forall_mem_cons.mpr ⟨fun _ _ _ _ _ _ _ _ _ _ _ _ _ _ _ _ _ _ X => so_iload_n (k := 1) X (by decide +kernel), ?_⟩
  refine List.forall_mem_cons.mpr ⟨fun _ _ _ _ _ _ _ _ _ _ _ _ _ _ _ _ _ _ X => so_i2l X (by decide +kernel), ?_⟩
  refine List.forall_mem_cons.mpr ⟨fun _ _ _ _ _ _ _ _ _ _ _ _ _ _ _ _ _ _ X => so_ldc2 (n := 27) (i := 97) X wq_871 (by decide +kernel), ?_⟩
  refine List.forall_mem_cons.mpr ⟨fun _ _ _ _ _ _ _ _ _ _ _ _ _ _ _ _ _ _ X => so_lmul X (by decide +kernel), ?_⟩
  refine List.forall_mem_cons.mpr ⟨fun _ _ _ _ _ _ _ _ _ _ _ _ _ _ _ _ _ _ X => so_iload (k := 4) X (by decide +kernel), ?_⟩
  refine List.forall_mem_cons.mpr ⟨fun _ _ _ _ _ _ _ _ _ _ _ _ _ _ _ _ _ _ X => so_i2l X (by decide +kernel), ?_⟩
  refine List.forall_mem_cons.mpr ⟨fun _ _ _ _ _ _ _ _ _ _ _ _ _ _ _ _ _ _ X => so_lcmp X (by decide +kernel), ?_⟩
  refine List.forall_mem_cons.mpr ⟨fun _ _ _ _ _ _ _ _ _ _ _ _ _ _ _ _ _ _ X => so_if_lt (off := 32) (tgt := 83) X (by decide +kernel) (by decide), ?_⟩
  refine List.forall_mem_cons.mpr ⟨fun _ _ _ _ _ _ _ _ _ _ _ _ _ _ _ _ _ _ X => so_aload_n (k := 0) X (by decide +kernel), ?_⟩
  refine List.forall_mem_cons.mpr ⟨fun _ _ _ _ _ _ _ _ _ _ _ _ _ _ _ _ _ _ X => so_iload_n (k := 1) X (by decide +kernel), ?_⟩
  refine List.forall_mem_cons.mpr ⟨fun _ _ _ _ _ _ _ _ _ _ _ _ _ _ _ _ _ _ X => so_iload (k := 4) X (by decide +kernel), ?_⟩
  refine List.forall_mem_cons.mpr ⟨fun _ _ _ _ _ _ _ _ _ _ _ _ _ _ _ _ _ _ X => so_iconst (n := (-1)) X (by decide +kernel), ?_⟩
  refine List.forall_mem_cons.mpr ⟨fun _ _ _ _ _ _ _ _ _ _ _ _ _ _ _ _ _ _ X => so_callV (i := 105) (cn := 9) (n := 3) X rfl rfl rfl wq_864 wq_866 ws_X10_often wq_43 wd_105 wc_105 (by decide +kernel), ?_⟩
  refine List.forall_mem_cons.mpr ⟨fun _ _ _ _ _ _ _ _ _ _ _ _ _ _ _ _ _ _ X => so_if_le (off := 21) (tgt := 83) X (by decide +kernel) (by decide), ?_⟩
  refine List.forall_mem_cons.mpr ⟨fun _ _ _ _ _ _ _ _ _ _ _ _ _ _ _ _ _ _ X => so_iconst (n := 2) X (by decide +kernel), ?_⟩
  refine List.forall_mem_cons.mpr ⟨fun _ _ _ _ _ _ _ _ _ _ _ _ _ _ _ _ _ _ X => so_aload_n (k := 0) X (by decide +kernel), ?_⟩
  refine List.forall_mem_cons.mpr ⟨fun _ _ _ _ _ _ _ _ _ _ _ _ _ _ _ _ _ _ X => so_iload_n (k := 1) X (by decide +kernel), ?_⟩
  refine List.forall_mem_cons.mpr ⟨fun _ _ _ _ _ _ _ _ _ _ _ _ _ _ _ _ _ _ X => so_iload (k := 4) X (by decide +kernel), ?_⟩
  refine List.forall_mem_cons.mpr ⟨fun _ _ _ _ _ _ _ _ _ _ _ _ _ _ _ _ _ _ X => so_iload_n (k := 2) X (by decide +kernel), ?_⟩
  refine List.forall_mem_cons.mpr ⟨fun _ _ _ _ _ _ _ _ _ _ _ _ _ _ _ _ _ _ X => so_callV (i := 105) (cn := 9) (n := 3) X rfl rfl rfl wq_864 wq_866 ws_X10_often wq_43 wd_105 wc_105 (by decide +kernel), ?_⟩
  refine List.forall_mem_cons.mpr ⟨fun _ _ _ _ _ _ _ _ _ _ _ _ _ _ _ _ _ _ X => so_imul X (by decide +kernel), ?_⟩
  refine List.forall_mem_cons.mpr ⟨fun _ _ _ _ _ _ _ _ _ _ _ _ _ _ _ _ _ _ X => so_iconst (n := 1) X (by decide +kernel), ?_⟩
  refine List.forall_mem_cons.mpr ⟨fun _ _ _ _ _ _ _ _ _ _ _ _ _ _ _ _ _ _ X => so_iadd X (by decide +kernel), ?_⟩
  refine List.forall_mem_cons.mpr ⟨fun _ _ _ _ _ _ _ _ _ _ _ _ _ _ _ _ _ _ X => so_bipush (n := 9) X (by decide +kernel) (by decide +kernel), ?_⟩
  refine List.forall_mem_cons.mpr ⟨fun _ _ _ _ _ _ _ _ _ _ _ _ _ _ _ _ _ _ X => so_callS (i := 106) (n := 2) X rfl wq_868 wq_869 wq_43 wd_106 wc_106 (by decide +kernel), ?_⟩
  refine List.forall_mem_cons.mpr ⟨fun _ _ _ _ _ _ _ _ _ _ _ _ _ _ _ _ _ _ X => so_iret X rfl (by decide +kernel), ?_⟩
  refine List.forall_mem_cons.mpr ⟨fun _ _ _ _ _ _ _ _ _ _ _ _ _ _ _ _ _ _ X => so_iload (k := 4) X (by decide +kernel), ?_⟩
  refine List.forall_mem_cons.mpr ⟨fun _ _ _ _ _ _ _ _ _ _ _ _ _ _ _ _ _ _ X => so_bipush (n := 27) X (by decide +kernel) (by decide +kernel), ?_⟩
  refine List.forall_mem_cons.mpr ⟨fun _ _ _ _ _ _ _ _ _ _ _ _ _ _ _ _ _ _ X => so_idiv X (by decide +kernel), ?_⟩
  refine List.forall_mem_cons.mpr ⟨fun _ _ _ _ _ _ _ _ _ _ _ _ _ _ _ _ _ _ X => so_istore (k := 4) X (by decide +kernel), ?_⟩
  refine List.forall_mem_cons.mpr ⟨fun _ _ _ _ _ _ _ _ _ _ _ _ _ _ _ _ _ _ X => so_goto (off := -55) (tgt := 35) X (by decide +kernel) (by decide), ?_⟩
  refine List.forall_mem_cons.mpr ⟨fun _ _ _ _ _ _ _ _ _ _ _ _ _ _ _ _ _ _ X => so_iconst (n := 1) X (by decide +kernel), ?_⟩
  refine List.forall_mem_cons.mpr ⟨fun _ _ _ _ _ _ _ _ _ _ _ _ _ _ _ _ _ _ X => so_iret X rfl (by decide +kernel), ?_⟩
  exact fun _ h => absurd h List.not_mem_nil
set_option maxRecDepth 100000 in
set_option maxHeartbeats 4000000 in
theorem sj_108 {L : Nat} {xs : Nat → Int32} : ∀ q ∈ cd_108, SJ L xs (md_108) q := by
  refine List.forall_mem_cons.mpr ⟨fun _ _ _ _ _ _ _ _ _ _ _ _ _ _ _ _ _ _ X => so_iconst (n := 1) X (by decide +kernel), ?_⟩
  refine List.forall_mem_cons.mpr ⟨fun _ _ _ _ _ _ _ _ _ _ _ _ _ _ _ _ _ _ X => so_istore_n (k := 3) X (by decide +kernel), ?_⟩
  refine List.forall_mem_cons.mpr ⟨fun _ _ _ _ _ _ _ _ _ _ _ _ _ _ _ _ _ _ X => so_iconst (n := 0) X (by decide +kernel), ?_⟩
  refine List.forall_mem_cons.mpr ⟨fun _ _ _ _ _ _ _ _ _ _ _ _ _ _ _ _ _ _ X => so_istore (k := 4) X (by decide +kernel), ?_⟩
  refine List.forall_mem_cons.mpr ⟨fun _ _ _ _ _ _ _ _ _ _ _ _ _ _ _ _ _ _ X => so_iload (k := 4) X (by decide +kernel), ?_⟩
  refine List.forall_mem_cons.mpr ⟨fun _ _ _ _ _ _ _ _ _ _ _ _ _ _ _ _ _ _ X => so_aload_n (k := 0) X (by decide +kernel), ?_⟩
  refine List.forall_mem_cons.mpr ⟨fun _ _ _ _ _ _ _ _ _ _ _ _ _ _ _ _ _ _ X => so_getI (cn := 9) (k := 10) X rfl (by omega) wq_747 (fun _ _ => rfl) (by decide +kernel), ?_⟩
  refine List.forall_mem_cons.mpr ⟨fun _ _ _ _ _ _ _ _ _ _ _ _ _ _ _ _ _ _ X => so_icmp_ge (off := 95) (tgt := 106) X (by decide +kernel) (by decide), ?_⟩
  refine List.forall_mem_cons.mpr ⟨fun _ _ _ _ _ _ _ _ _ _ _ _ _ _ _ _ _ _ X => so_iconst (n := 0) X (by decide +kernel), ?_⟩
  refine List.forall_mem_cons.mpr ⟨fun _ _ _ _ _ _ _ _ _ _ _ _ _ _ _ _ _ _ X => so_istore (k := 5) X (by decide +kernel), ?_⟩
  refine List.forall_mem_cons.mpr ⟨fun _ _ _ _ _ _ _ _ _ _ _ _ _ _ _ _ _ _ X => so_iload (k := 5) X (by decide +kernel), ?_⟩
  refine List.forall_mem_cons.mpr ⟨fun _ _ _ _ _ _ _ _ _ _ _ _ _ _ _ _ _ _ X => so_aload_n (k := 0) X (by decide +kernel), ?_⟩
  refine List.forall_mem_cons.mpr ⟨fun _ _ _ _ _ _ _ _ _ _ _ _ _ _ _ _ _ _ X => so_getR (cn := 9) (k := 8) X rfl (by omega) wq_745 (fun _ _ => rfl) (by decide +kernel), ?_⟩
  refine List.forall_mem_cons.mpr ⟨fun _ _ _ _ _ _ _ _ _ _ _ _ _ _ _ _ _ _ X => so_iload (k := 4) X (by decide +kernel), ?_⟩
  refine List.forall_mem_cons.mpr ⟨fun _ _ _ _ _ _ _ _ _ _ _ _ _ _ _ _ _ _ X => so_iald X (by decide +kernel), ?_⟩
  refine List.forall_mem_cons.mpr ⟨fun _ _ _ _ _ _ _ _ _ _ _ _ _ _ _ _ _ _ X => so_icmp_ge (off := 74) (tgt := 100) X (by decide +kernel) (by decide), ?_⟩
  refine List.forall_mem_cons.mpr ⟨fun _ _ _ _ _ _ _ _ _ _ _ _ _ _ _ _ _ _ X => so_aload_n (k := 0) X (by decide +kernel), ?_⟩
  refine List.forall_mem_cons.mpr ⟨fun _ _ _ _ _ _ _ _ _ _ _ _ _ _ _ _ _ _ X => so_getR (cn := 9) (k := 9) X rfl (by omega) wq_746 (fun _ _ => rfl) (by decide +kernel), ?_⟩
  refine List.forall_mem_cons.mpr ⟨fun _ _ _ _ _ _ _ _ _ _ _ _ _ _ _ _ _ _ X => so_iload (k := 4) X (by decide +kernel), ?_⟩
  refine List.forall_mem_cons.mpr ⟨fun _ _ _ _ _ _ _ _ _ _ _ _ _ _ _ _ _ _ X => so_zald X (by decide +kernel), ?_⟩
  refine List.forall_mem_cons.mpr ⟨fun _ _ _ _ _ _ _ _ _ _ _ _ _ _ _ _ _ _ X => so_if_eq (off := 64) (tgt := 100) X (by decide +kernel) (by decide), ?_⟩
  refine List.forall_mem_cons.mpr ⟨fun _ _ _ _ _ _ _ _ _ _ _ _ _ _ _ _ _ _ X => so_bipush (n := 6) X (by decide +kernel) (by decide +kernel), ?_⟩
  refine List.forall_mem_cons.mpr ⟨fun _ _ _ _ _ _ _ _ _ _ _ _ _ _ _ _ _ _ X => so_iload (k := 4) X (by decide +kernel), ?_⟩
  refine List.forall_mem_cons.mpr ⟨fun _ _ _ _ _ _ _ _ _ _ _ _ _ _ _ _ _ _ X => so_imul X (by decide +kernel), ?_⟩
  refine List.forall_mem_cons.mpr ⟨fun _ _ _ _ _ _ _ _ _ _ _ _ _ _ _ _ _ _ X => so_iload (k := 5) X (by decide +kernel), ?_⟩
  refine List.forall_mem_cons.mpr ⟨fun _ _ _ _ _ _ _ _ _ _ _ _ _ _ _ _ _ _ X => so_iadd X (by decide +kernel), ?_⟩
  refine List.forall_mem_cons.mpr ⟨fun _ _ _ _ _ _ _ _ _ _ _ _ _ _ _ _ _ _ X => so_istore (k := 6) X (by decide +kernel), ?_⟩
  refine List.forall_mem_cons.mpr ⟨fun _ _ _ _ _ _ _ _ _ _ _ _ _ _ _ _ _ _ X => so_iload_n (k := 3) X (by decide +kernel), ?_⟩
  refine List.forall_mem_cons.mpr ⟨fun _ _ _ _ _ _ _ _ _ _ _ _ _ _ _ _ _ _ X => so_aload_n (k := 0) X (by decide +kernel), ?_⟩
  refine List.forall_mem_cons.mpr ⟨fun _ _ _ _ _ _ _ _ _ _ _ _ _ _ _ _ _ _ X => so_getR (cn := 9) (k := 7) X rfl (by omega) wq_744 (fun _ _ => rfl) (by decide +kernel), ?_⟩
  refine List.forall_mem_cons.mpr ⟨fun _ _ _ _ _ _ _ _ _ _ _ _ _ _ _ _ _ _ X => so_iload (k := 6) X (by decide +kernel), ?_⟩
  refine List.forall_mem_cons.mpr ⟨fun _ _ _ _ _ _ _ _ _ _ _ _ _ _ _ _ _ _ X => so_iald X (by decide +kernel), ?_⟩
  refine List.forall_mem_cons.mpr ⟨fun _ _ _ _ _ _ _ _ _ _ _ _ _ _ _ _ _ _ X => so_iload_n (k := 2) X (by decide +kernel), ?_⟩
  refine List.forall_mem_cons.mpr ⟨fun _ _ _ _ _ _ _ _ _ _ _ _ _ _ _ _ _ _ X => so_icmp_ne (off := 33) (tgt := 91) X (by decide +kernel) (by decide), ?_⟩
  refine List.forall_mem_cons.mpr ⟨fun _ _ _ _ _ _ _ _ _ _ _ _ _ _ _ _ _ _ X => so_iload (k := 5) X (by decide +kernel), ?_⟩
  refine List.forall_mem_cons.mpr ⟨fun _ _ _ _ _ _ _ _ _ _ _ _ _ _ _ _ _ _ X => so_if_ne (off := 11) (tgt := 74) X (by decide +kernel) (by decide), ?_⟩
  refine List.forall_mem_cons.mpr ⟨fun _ _ _ _ _ _ _ _ _ _ _ _ _ _ _ _ _ _ X => so_iload_n (k := 1) X (by decide +kernel), ?_⟩
  refine List.forall_mem_cons.mpr ⟨fun _ _ _ _ _ _ _ _ _ _ _ _ _ _ _ _ _ _ X => so_iconst (n := (-1)) X (by decide +kernel), ?_⟩
  refine List.forall_mem_cons.mpr ⟨fun _ _ _ _ _ _ _ _ _ _ _ _ _ _ _ _ _ _ X => so_icmp_ne (off := 23) (tgt := 91) X (by decide +kernel) (by decide), ?_⟩
  refine List.forall_mem_cons.mpr ⟨fun _ _ _ _ _ _ _ _ _ _ _ _ _ _ _ _ _ _ X => so_goto (off := 16) (tgt := 87) X (by decide +kernel) (by decide), ?_⟩
  refine List.forall_mem_cons.mpr ⟨fun _ _ _ _ _ _ _ _ _ _ _ _ _ _ _ _ _ _ X => so_aload_n (k := 0) X (by decide +kernel), ?_⟩
  refine List.forall_mem_cons.mpr ⟨fun _ _ _ _ _ _ _ _ _ _ _ _ _ _ _ _ _ _ X => so_getR (cn := 9) (k := 7) X rfl (by omega) wq_744 (fun _ _ => rfl) (by decide +kernel), ?_⟩
  refine List.forall_mem_cons.mpr ⟨fun _ _ _ _ _ _ _ _ _ _ _ _ _ _ _ _ _ _ X => so_iload (k := 6) X (by decide +kernel), ?_⟩
  refine List.forall_mem_cons.mpr ⟨fun _ _ _ _ _ _ _ _ _ _ _ _ _ _ _ _ _ _ X => so_iconst (n := 1) X (by decide +kernel), ?_⟩
  refine List.forall_mem_cons.mpr ⟨fun _ _ _ _ _ _ _ _ _ _ _ _ _ _ _ _ _ _ X => so_isub X (by decide +kernel), ?_⟩
  refine List.forall_mem_cons.mpr ⟨fun _ _ _ _ _ _ _ _ _ _ _ _ _ _ _ _ _ _ X => so_iald X (by decide +kernel), ?_⟩
  refine List.forall_mem_cons.mpr ⟨fun _ _ _ _ _ _ _ _ _ _ _ _ _ _ _ _ _ _ X => so_iload_n (k := 1) X (by decide +kernel), ?_⟩
  refine List.forall_mem_cons.mpr ⟨fun _ _ _ _ _ _ _ _ _ _ _ _ _ _ _ _ _ _ X => so_icmp_ne (off := 7) (tgt := 91) X (by decide +kernel) (by decide), ?_⟩
  refine List.forall_mem_cons.mpr ⟨fun _ _ _ _ _ _ _ _ _ _ _ _ _ _ _ _ _ _ X => so_iconst (n := 1) X (by decide +kernel), ?_⟩
  refine List.forall_mem_cons.mpr ⟨fun _ _ _ _ _ _ _ _ _ _ _ _ _ _ _ _ _ _ X => so_goto (off := 4) (tgt := 92) X (by decide +kernel) (by decide), ?_⟩
  refine List.forall_mem_cons.mpr ⟨fun _ _ _ _ _ _ _ _ _ _ _ _ _ _ _ _ _ _ X => so_iconst (n := 0) X (by decide +kernel), ?_⟩
  refine List.forall_mem_cons.mpr ⟨fun _ _ _ _ _ _ _ _ _ _ _ _ _ _ _ _ _ _ X => so_iadd X (by decide +kernel), ?_⟩
  refine List.forall_mem_cons.mpr ⟨fun _ _ _ _ _ _ _ _ _ _ _ _ _ _ _ _ _ _ X => so_istore_n (k := 3) X (by decide +kernel), ?_⟩
  refine List.forall_mem_cons.mpr ⟨fun _ _ _ _ _ _ _ _ _ _ _ _ _ _ _ _ _ _ X => so_iinc (k := 5) (n := 1) X (by decide +kernel), ?_⟩
  refine List.forall_mem_cons.mpr ⟨fun _ _ _ _ _ _ _ _ _ _ _ _ _ _ _ _ _ _ X => so_goto (off := -80) (tgt := 17) X (by decide +kernel) (by decide), ?_⟩
  refine List.forall_mem_cons.mpr ⟨fun _ _ _ _ _ _ _ _ _ _ _ _ _ _ _ _ _ _ X => so_iinc (k := 4) (n := 1) X (by decide +kernel), ?_⟩
  refine List.forall_mem_cons.mpr ⟨fun _ _ _ _ _ _ _ _ _ _ _ _ _ _ _ _ _ _ X => so_goto (off := -98) (tgt := 5) X (by decide +kernel) (by decide), ?_⟩
  refine List.forall_mem_cons.mpr ⟨fun _ _ _ _ _ _ _ _ _ _ _ _ _ _ _ _ _ _ X => so_iload_n (k := 3) X (by decide +kernel), ?_⟩
  refine List.forall_mem_cons.mpr ⟨fun _ _ _ _ _ _ _ _ _ _ _ _ _ _ _ _ _ _ X => so_bipush (n := 7) X (by decide +kernel) (by decide +kernel), ?_⟩
  refine List.forall_mem_cons.mpr ⟨fun _ _ _ _ _ _ _ _ _ _ _ _ _ _ _ _ _ _ X => so_callS (i := 106) (n := 2) X rfl wq_868 wq_869 wq_43 wd_106 wc_106 (by decide +kernel), ?_⟩
  refine List.forall_mem_cons.mpr ⟨fun _ _ _ _ _ _ _ _ _ _ _ _ _ _ _ _ _ _ X => so_iret X rfl (by decide +kernel), ?_⟩
  exact fun _ h => absurd h List.not_mem_nil
