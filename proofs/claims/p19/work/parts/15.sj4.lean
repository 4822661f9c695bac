/-! ===== sound, op by op (written by a program) ===== -/
set_option maxRecDepth 100000 in
set_option maxHeartbeats 4000000 in
theorem sj_92 {L : Nat} {xs : Nat → Int32} : ∀ q ∈ cd_92, SJ L xs (md_92) q := by
  refine List.forall_mem_cons.mpr ⟨fun _ _ _ _ _ _ _ _ _ _ _ _ _ _ _ _ _ _ X => so_aload_n (k := 0) X (by decide +kernel), ?_⟩
  refine List.forall_mem_cons.mpr ⟨fun _ _ _ _ _ _ _ _ _ _ _ _ _ _ _ _ _ _ X => so_iload_n (k := 1) X (by decide +kernel), ?_⟩
  refine List.forall_mem_cons.mpr ⟨fun _ _ _ _ _ _ _ _ _ _ _ _ _ _ _ _ _ _ X => so_iload_n (k := 2) X (by decide +kernel), ?_⟩
  refine List.forall_mem_cons.mpr ⟨fun _ _ _ _ _ _ _ _ _ _ _ _ _ _ _ _ _ _ X => so_iload_n (k := 3) X (by decide +kernel), ?_⟩
  refine List.forall_mem_cons.mpr ⟨fun _ _ _ _ _ _ _ _ _ _ _ _ _ _ _ _ _ _ X => so_callS (i := 91) (n := 4) X rfl wq_482 wq_483 wq_18 wd_91 wc_91 (by decide +kernel), ?_⟩
  refine List.forall_mem_cons.mpr ⟨fun _ _ _ _ _ _ _ _ _ _ _ _ _ _ _ _ _ _ X => so_iret X rfl (by decide +kernel), ?_⟩
  exact fun _ h => absurd h List.not_mem_nil
set_option maxRecDepth 100000 in
set_option maxHeartbeats 4000000 in
theorem sj_93 {L : Nat} {xs : Nat → Int32} (hL : L ≤ 260) : ∀ q ∈ cd_93 L xs, SJ L xs (md_93 L xs) q := by
  refine List.forall_mem_cons.mpr ⟨fun _ _ _ _ _ _ _ _ _ _ _ _ _ _ _ _ _ _ X => so_iload_n (k := 1) X (show decode cL_draw 0 = .ok (.iload_n 1, 1) from by decide +kernel), ?_⟩
  refine List.forall_mem_cons.mpr ⟨fun _ _ _ _ _ _ _ _ _ _ _ _ _ _ _ _ _ _ X => so_aload_n (k := 0) X (show decode cL_draw 1 = .ok (.aload_n 0, 1) from by decide +kernel), ?_⟩
  refine List.forall_mem_cons.mpr ⟨fun _ _ _ _ _ _ _ _ _ _ _ _ _ _ _ _ _ _ X => so_slen X (show decode cL_draw 2 = .ok (.arraylength, 1) from by decide +kernel), ?_⟩
  refine List.forall_mem_cons.mpr ⟨fun _ _ _ _ _ _ _ _ _ _ _ _ _ _ _ _ _ _ X => so_icmp_ge (off := 9) (tgt := 12) X (show decode cL_draw 3 = .ok (.if_icmp .ge 9, 3) from by decide +kernel) (by decide), ?_⟩
  refine List.forall_mem_cons.mpr ⟨fun _ _ _ _ _ _ _ _ _ _ _ _ _ _ _ _ _ _ X => so_aload_n (k := 0) X (show decode cL_draw 6 = .ok (.aload_n 0, 1) from by decide +kernel), ?_⟩
  refine List.forall_mem_cons.mpr ⟨fun _ _ _ _ _ _ _ _ _ _ _ _ _ _ _ _ _ _ X => so_iload_n (k := 1) X (show decode cL_draw 7 = .ok (.iload_n 1, 1) from by decide +kernel), ?_⟩
  refine List.forall_mem_cons.mpr ⟨fun _ _ _ _ _ _ _ _ _ _ _ _ _ _ _ _ _ _ X => so_sld X hL (show decode cL_draw 8 = .ok (.iaload, 1) from by decide +kernel), ?_⟩
  refine List.forall_mem_cons.mpr ⟨fun _ _ _ _ _ _ _ _ _ _ _ _ _ _ _ _ _ _ X => so_goto (off := 18) (tgt := 27) X (show decode cL_draw 9 = .ok (.goto 18, 3) from by decide +kernel) (by decide), ?_⟩
  refine List.forall_mem_cons.mpr ⟨fun _ _ _ _ _ _ _ _ _ _ _ _ _ _ _ _ _ _ X => so_ldc (n := 3740017) (i := 62) X wq_683 (show decode cL_draw 12 = .ok (.ldc 62, 2) from by decide +kernel), ?_⟩
  refine List.forall_mem_cons.mpr ⟨fun _ _ _ _ _ _ _ _ _ _ _ _ _ _ _ _ _ _ X => so_iload_n (k := 1) X (show decode cL_draw 14 = .ok (.iload_n 1, 1) from by decide +kernel), ?_⟩
  refine List.forall_mem_cons.mpr ⟨fun _ _ _ _ _ _ _ _ _ _ _ _ _ _ _ _ _ _ X => so_imul X (show decode cL_draw 15 = .ok (.imul, 1) from by decide +kernel), ?_⟩
  refine List.forall_mem_cons.mpr ⟨fun _ _ _ _ _ _ _ _ _ _ _ _ _ _ _ _ _ _ X => so_iload_n (k := 1) X (show decode cL_draw 16 = .ok (.iload_n 1, 1) from by decide +kernel), ?_⟩
  refine List.forall_mem_cons.mpr ⟨fun _ _ _ _ _ _ _ _ _ _ _ _ _ _ _ _ _ _ X => so_imul X (show decode cL_draw 17 = .ok (.imul, 1) from by decide +kernel), ?_⟩
  refine List.forall_mem_cons.mpr ⟨fun _ _ _ _ _ _ _ _ _ _ _ _ _ _ _ _ _ _ X => so_ldc (n := 150053) (i := 63) X wq_684 (show decode cL_draw 18 = .ok (.ldc 63, 2) from by decide +kernel), ?_⟩
  refine List.forall_mem_cons.mpr ⟨fun _ _ _ _ _ _ _ _ _ _ _ _ _ _ _ _ _ _ X => so_iload_n (k := 1) X (show decode cL_draw 20 = .ok (.iload_n 1, 1) from by decide +kernel), ?_⟩
  refine List.forall_mem_cons.mpr ⟨fun _ _ _ _ _ _ _ _ _ _ _ _ _ _ _ _ _ _ X => so_imul X (show decode cL_draw 21 = .ok (.imul, 1) from by decide +kernel), ?_⟩
  refine List.forall_mem_cons.mpr ⟨fun _ _ _ _ _ _ _ _ _ _ _ _ _ _ _ _ _ _ X => so_iadd X (show decode cL_draw 22 = .ok (.iadd, 1) from by decide +kernel), ?_⟩
  refine List.forall_mem_cons.mpr ⟨fun _ _ _ _ _ _ _ _ _ _ _ _ _ _ _ _ _ _ X => so_sipush (n := 321) X (by decide +kernel) (show decode cL_draw 23 = .ok (.sipush 321, 3) from by decide +kernel), ?_⟩
  refine List.forall_mem_cons.mpr ⟨fun _ _ _ _ _ _ _ _ _ _ _ _ _ _ _ _ _ _ X => so_iaddw X (show decode cL_draw 26 = .ok (.iadd, 1) from by decide +kernel), ?_⟩
  refine List.forall_mem_cons.mpr ⟨fun _ _ _ _ _ _ _ _ _ _ _ _ _ _ _ _ _ _ X => so_iret X rfl (show decode cL_draw 27 = .ok (.ireturn, 1) from by decide +kernel), ?_⟩
  exact fun _ h => absurd h List.not_mem_nil
set_option maxRecDepth 100000 in
set_option maxHeartbeats 4000000 in
theorem sj_94 {L : Nat} {xs : Nat → Int32} : ∀ q ∈ cd_94, SJ L xs (md_94) q := by
  refine List.forall_mem_cons.mpr ⟨fun _ _ _ _ _ _ _ _ _ _ _ _ _ _ _ _ _ _ X => so_iconst (n := 1) X (by decide +kernel), ?_⟩
  refine List.forall_mem_cons.mpr ⟨fun _ _ _ _ _ _ _ _ _ _ _ _ _ _ _ _ _ _ X => so_istore (k := 5) X (by decide +kernel), ?_⟩
  refine List.forall_mem_cons.mpr ⟨fun _ _ _ _ _ _ _ _ _ _ _ _ _ _ _ _ _ _ X => so_ldc2 (n := 9223372036854775807) (i := 64) X wq_688 (by decide +kernel), ?_⟩
  refine List.forall_mem_cons.mpr ⟨fun _ _ _ _ _ _ _ _ _ _ _ _ _ _ _ _ _ _ X => so_lstore (k := 6) X (by decide +kernel), ?_⟩
  refine List.forall_mem_cons.mpr ⟨fun _ _ _ _ _ _ _ _ _ _ _ _ _ _ _ _ _ _ X => so_iconst (n := 0) X (by decide +kernel), ?_⟩
  refine List.forall_mem_cons.mpr ⟨fun _ _ _ _ _ _ _ _ _ _ _ _ _ _ _ _ _ _ X => so_istore (k := 8) X (by decide +kernel), ?_⟩
  refine List.forall_mem_cons.mpr ⟨fun _ _ _ _ _ _ _ _ _ _ _ _ _ _ _ _ _ _ X => so_iload (k := 8) X (by decide +kernel), ?_⟩
  refine List.forall_mem_cons.mpr ⟨fun _ _ _ _ _ _ _ _ _ _ _ _ _ _ _ _ _ _ X => so_iconst (n := 4) X (by decide +kernel), ?_⟩
  refine List.forall_mem_cons.mpr ⟨fun _ _ _ _ _ _ _ _ _ _ _ _ _ _ _ _ _ _ X => so_icmp_ge (off := 188) (tgt := 202) X (by decide +kernel) (by decide), ?_⟩
  refine List.forall_mem_cons.mpr ⟨fun _ _ _ _ _ _ _ _ _ _ _ _ _ _ _ _ _ _ X => so_iload (k := 5) X (by decide +kernel), ?_⟩
  refine List.forall_mem_cons.mpr ⟨fun _ _ _ _ _ _ _ _ _ _ _ _ _ _ _ _ _ _ X => so_if_eq (off := 183) (tgt := 202) X (by decide +kernel) (by decide), ?_⟩
  refine List.forall_mem_cons.mpr ⟨fun _ _ _ _ _ _ _ _ _ _ _ _ _ _ _ _ _ _ X => so_iload (k := 8) X (by decide +kernel), ?_⟩
  refine List.forall_mem_cons.mpr ⟨fun _ _ _ _ _ _ _ _ _ _ _ _ _ _ _ _ _ _ X => so_iconst (n := 2) X (by decide +kernel), ?_⟩
  refine List.forall_mem_cons.mpr ⟨fun _ _ _ _ _ _ _ _ _ _ _ _ _ _ _ _ _ _ X => so_icmp_ge (off := 8) (tgt := 33) X (by decide +kernel) (by decide), ?_⟩
  refine List.forall_mem_cons.mpr ⟨fun _ _ _ _ _ _ _ _ _ _ _ _ _ _ _ _ _ _ X => so_iload (k := 8) X (by decide +kernel), ?_⟩
  refine List.forall_mem_cons.mpr ⟨fun _ _ _ _ _ _ _ _ _ _ _ _ _ _ _ _ _ _ X => so_goto (off := 15) (tgt := 45) X (by decide +kernel) (by decide), ?_⟩
  refine List.forall_mem_cons.mpr ⟨fun _ _ _ _ _ _ _ _ _ _ _ _ _ _ _ _ _ _ X => so_iload (k := 4) X (by decide +kernel), ?_⟩
  refine List.forall_mem_cons.mpr ⟨fun _ _ _ _ _ _ _ _ _ _ _ _ _ _ _ _ _ _ X => so_iconst (n := 3) X (by decide +kernel), ?_⟩
  refine List.forall_mem_cons.mpr ⟨fun _ _ _ _ _ _ _ _ _ _ _ _ _ _ _ _ _ _ X => so_iload (k := 8) X (by decide +kernel), ?_⟩
  refine List.forall_mem_cons.mpr ⟨fun _ _ _ _ _ _ _ _ _ _ _ _ _ _ _ _ _ _ X => so_imul X (by decide +kernel), ?_⟩
  refine List.forall_mem_cons.mpr ⟨fun _ _ _ _ _ _ _ _ _ _ _ _ _ _ _ _ _ _ X => so_iadd X (by decide +kernel), ?_⟩
  refine List.forall_mem_cons.mpr ⟨fun _ _ _ _ _ _ _ _ _ _ _ _ _ _ _ _ _ _ X => so_bipush (n := 8) X (by decide +kernel) (by decide +kernel), ?_⟩
  refine List.forall_mem_cons.mpr ⟨fun _ _ _ _ _ _ _ _ _ _ _ _ _ _ _ _ _ _ X => so_irem X (by decide +kernel), ?_⟩
  refine List.forall_mem_cons.mpr ⟨fun _ _ _ _ _ _ _ _ _ _ _ _ _ _ _ _ _ _ X => so_iconst (n := 2) X (by decide +kernel), ?_⟩
  refine List.forall_mem_cons.mpr ⟨fun _ _ _ _ _ _ _ _ _ _ _ _ _ _ _ _ _ _ X => so_iadd X (by decide +kernel), ?_⟩
  refine List.forall_mem_cons.mpr ⟨fun _ _ _ _ _ _ _ _ _ _ _ _ _ _ _ _ _ _ X => so_istore (k := 9) X (by decide +kernel), ?_⟩
  refine List.forall_mem_cons.mpr ⟨fun _ _ _ _ _ _ _ _ _ _ _ _ _ _ _ _ _ _ X => so_aload_n (k := 0) X (by decide +kernel), ?_⟩
  refine List.forall_mem_cons.mpr ⟨fun _ _ _ _ _ _ _ _ _ _ _ _ _ _ _ _ _ _ X => so_iload (k := 9) X (by decide +kernel), ?_⟩
  refine List.forall_mem_cons.mpr ⟨fun _ _ _ _ _ _ _ _ _ _ _ _ _ _ _ _ _ _ X => so_callV (i := 73) (cn := 8) (n := 1) X rfl rfl rfl wq_240 wq_241 wq_242 wq_19 wd_73 wc_73 (by decide +kernel), ?_⟩
  refine List.forall_mem_cons.mpr ⟨fun _ _ _ _ _ _ _ _ _ _ _ _ _ _ _ _ _ _ X => so_lstore (k := 10) X (by decide +kernel), ?_⟩
  refine List.forall_mem_cons.mpr ⟨fun _ _ _ _ _ _ _ _ _ _ _ _ _ _ _ _ _ _ X => so_lconst (n := 1) X (by decide +kernel), ?_⟩
  refine List.forall_mem_cons.mpr ⟨fun _ _ _ _ _ _ _ _ _ _ _ _ _ _ _ _ _ _ X => so_lstore (k := 12) X (by decide +kernel), ?_⟩
  refine List.forall_mem_cons.mpr ⟨fun _ _ _ _ _ _ _ _ _ _ _ _ _ _ _ _ _ _ X => so_iconst (n := (-1)) X (by decide +kernel), ?_⟩
  refine List.forall_mem_cons.mpr ⟨fun _ _ _ _ _ _ _ _ _ _ _ _ _ _ _ _ _ _ X => so_istore (k := 14) X (by decide +kernel), ?_⟩
  refine List.forall_mem_cons.mpr ⟨fun _ _ _ _ _ _ _ _ _ _ _ _ _ _ _ _ _ _ X => so_iconst (n := 0) X (by decide +kernel), ?_⟩
  refine List.forall_mem_cons.mpr ⟨fun _ _ _ _ _ _ _ _ _ _ _ _ _ _ _ _ _ _ X => so_istore (k := 15) X (by decide +kernel), ?_⟩
  refine List.forall_mem_cons.mpr ⟨fun _ _ _ _ _ _ _ _ _ _ _ _ _ _ _ _ _ _ X => so_iload (k := 15) X (by decide +kernel), ?_⟩
  refine List.forall_mem_cons.mpr ⟨fun _ _ _ _ _ _ _ _ _ _ _ _ _ _ _ _ _ _ X => so_iload_n (k := 1) X (by decide +kernel), ?_⟩
  refine List.forall_mem_cons.mpr ⟨fun _ _ _ _ _ _ _ _ _ _ _ _ _ _ _ _ _ _ X => so_icmp_ge (off := 84) (tgt := 151) X (by decide +kernel) (by decide), ?_⟩
  refine List.forall_mem_cons.mpr ⟨fun _ _ _ _ _ _ _ _ _ _ _ _ _ _ _ _ _ _ X => so_lload (k := 12) X (by decide +kernel), ?_⟩
  refine List.forall_mem_cons.mpr ⟨fun _ _ _ _ _ _ _ _ _ _ _ _ _ _ _ _ _ _ X => so_lconst (n := 0) X (by decide +kernel), ?_⟩
  refine List.forall_mem_cons.mpr ⟨fun _ _ _ _ _ _ _ _ _ _ _ _ _ _ _ _ _ _ X => so_lcmp X (by decide +kernel), ?_⟩
  refine List.forall_mem_cons.mpr ⟨fun _ _ _ _ _ _ _ _ _ _ _ _ _ _ _ _ _ _ X => so_if_le (off := 77) (tgt := 151) X (by decide +kernel) (by decide), ?_⟩
  refine List.forall_mem_cons.mpr ⟨fun _ _ _ _ _ _ _ _ _ _ _ _ _ _ _ _ _ _ X => so_aload_n (k := 0) X (by decide +kernel), ?_⟩
  refine List.forall_mem_cons.mpr ⟨fun _ _ _ _ _ _ _ _ _ _ _ _ _ _ _ _ _ _ X => so_bipush (n := 8) X (by decide +kernel) (by decide +kernel), ?_⟩
  refine List.forall_mem_cons.mpr ⟨fun _ _ _ _ _ _ _ _ _ _ _ _ _ _ _ _ _ _ X => so_iload (k := 9) X (by decide +kernel), ?_⟩
  refine List.forall_mem_cons.mpr ⟨fun _ _ _ _ _ _ _ _ _ _ _ _ _ _ _ _ _ _ X => so_iload (k := 15) X (by decide +kernel), ?_⟩
  refine List.forall_mem_cons.mpr ⟨fun _ _ _ _ _ _ _ _ _ _ _ _ _ _ _ _ _ _ X => so_callSW (i := 92) (n := 4) X rfl wq_476 wq_477 wq_18 wd_92 wc_92 (by decide +kernel), ?_⟩
  refine List.forall_mem_cons.mpr ⟨fun _ _ _ _ _ _ _ _ _ _ _ _ _ _ _ _ _ _ X => so_istore (k := 16) X (by decide +kernel), ?_⟩
  refine List.forall_mem_cons.mpr ⟨fun _ _ _ _ _ _ _ _ _ _ _ _ _ _ _ _ _ _ X => so_iload (k := 16) X (by decide +kernel), ?_⟩
  refine List.forall_mem_cons.mpr ⟨fun _ _ _ _ _ _ _ _ _ _ _ _ _ _ _ _ _ _ X => so_if_lt (off := 19) (tgt := 110) X (by decide +kernel) (by decide), ?_⟩
  refine List.forall_mem_cons.mpr ⟨fun _ _ _ _ _ _ _ _ _ _ _ _ _ _ _ _ _ _ X => so_aload_n (k := 3) X (by decide +kernel), ?_⟩
  refine List.forall_mem_cons.mpr ⟨fun _ _ _ _ _ _ _ _ _ _ _ _ _ _ _ _ _ _ X => so_iload (k := 15) X (by decide +kernel), ?_⟩
  refine List.forall_mem_cons.mpr ⟨fun _ _ _ _ _ _ _ _ _ _ _ _ _ _ _ _ _ _ X => so_iald X (by decide +kernel), ?_⟩
  refine List.forall_mem_cons.mpr ⟨fun _ _ _ _ _ _ _ _ _ _ _ _ _ _ _ _ _ _ X => so_if_lt (off := 16) (tgt := 114) X (by decide +kernel) (by decide), ?_⟩
  refine List.forall_mem_cons.mpr ⟨fun _ _ _ _ _ _ _ _ _ _ _ _ _ _ _ _ _ _ X => so_aload_n (k := 3) X (by decide +kernel), ?_⟩
  refine List.forall_mem_cons.mpr ⟨fun _ _ _ _ _ _ _ _ _ _ _ _ _ _ _ _ _ _ X => so_iload (k := 15) X (by decide +kernel), ?_⟩
  refine List.forall_mem_cons.mpr ⟨fun _ _ _ _ _ _ _ _ _ _ _ _ _ _ _ _ _ _ X => so_iald X (by decide +kernel), ?_⟩
  refine List.forall_mem_cons.mpr ⟨fun _ _ _ _ _ _ _ _ _ _ _ _ _ _ _ _ _ _ X => so_iload (k := 16) X (by decide +kernel), ?_⟩
  refine List.forall_mem_cons.mpr ⟨fun _ _ _ _ _ _ _ _ _ _ _ _ _ _ _ _ _ _ X => so_icmp_eq (off := 7) (tgt := 114) X (by decide +kernel) (by decide), ?_⟩
  refine List.forall_mem_cons.mpr ⟨fun _ _ _ _ _ _ _ _ _ _ _ _ _ _ _ _ _ _ X => so_lconst (n := 0) X (by decide +kernel), ?_⟩
  refine List.forall_mem_cons.mpr ⟨fun _ _ _ _ _ _ _ _ _ _ _ _ _ _ _ _ _ _ X => so_goto (off := 28) (tgt := 139) X (by decide +kernel) (by decide), ?_⟩
  refine List.forall_mem_cons.mpr ⟨fun _ _ _ _ _ _ _ _ _ _ _ _ _ _ _ _ _ _ X => so_lload (k := 12) X (by decide +kernel), ?_⟩
  refine List.forall_mem_cons.mpr ⟨fun _ _ _ _ _ _ _ _ _ _ _ _ _ _ _ _ _ _ X => so_aload_n (k := 2) X (by decide +kernel), ?_⟩
  refine List.forall_mem_cons.mpr ⟨fun _ _ _ _ _ _ _ _ _ _ _ _ _ _ _ _ _ _ X => so_iconst (n := 5) X (by decide +kernel), ?_⟩
  refine List.forall_mem_cons.mpr ⟨fun _ _ _ _ _ _ _ _ _ _ _ _ _ _ _ _ _ _ X => so_iload (k := 15) X (by decide +kernel), ?_⟩
  refine List.forall_mem_cons.mpr ⟨fun _ _ _ _ _ _ _ _ _ _ _ _ _ _ _ _ _ _ X => so_imul X (by decide +kernel), ?_⟩
  refine List.forall_mem_cons.mpr ⟨fun _ _ _ _ _ _ _ _ _ _ _ _ _ _ _ _ _ _ X => so_iload (k := 16) X (by decide +kernel), ?_⟩
  refine List.forall_mem_cons.mpr ⟨fun _ _ _ _ _ _ _ _ _ _ _ _ _ _ _ _ _ _ X => so_iadd X (by decide +kernel), ?_⟩
  refine List.forall_mem_cons.mpr ⟨fun _ _ _ _ _ _ _ _ _ _ _ _ _ _ _ _ _ _ X => so_iald X (by decide +kernel), ?_⟩
  refine List.forall_mem_cons.mpr ⟨fun _ _ _ _ _ _ _ _ _ _ _ _ _ _ _ _ _ _ X => so_i2l X (by decide +kernel), ?_⟩
  refine List.forall_mem_cons.mpr ⟨fun _ _ _ _ _ _ _ _ _ _ _ _ _ _ _ _ _ _ X => so_lmul X (by decide +kernel), ?_⟩
  refine List.forall_mem_cons.mpr ⟨fun _ _ _ _ _ _ _ _ _ _ _ _ _ _ _ _ _ _ X => so_aload_n (k := 0) X (by decide +kernel), ?_⟩
  refine List.forall_mem_cons.mpr ⟨fun _ _ _ _ _ _ _ _ _ _ _ _ _ _ _ _ _ _ X => so_bipush (n := 7) X (by decide +kernel) (by decide +kernel), ?_⟩
  refine List.forall_mem_cons.mpr ⟨fun _ _ _ _ _ _ _ _ _ _ _ _ _ _ _ _ _ _ X => so_iload (k := 14) X (by decide +kernel), ?_⟩
  refine List.forall_mem_cons.mpr ⟨fun _ _ _ _ _ _ _ _ _ _ _ _ _ _ _ _ _ _ X => so_iload (k := 16) X (by decide +kernel), ?_⟩
  refine List.forall_mem_cons.mpr ⟨fun _ _ _ _ _ _ _ _ _ _ _ _ _ _ _ _ _ _ X => so_callSW (i := 92) (n := 4) X rfl wq_476 wq_477 wq_18 wd_92 wc_92 (by decide +kernel), ?_⟩
  refine List.forall_mem_cons.mpr ⟨fun _ _ _ _ _ _ _ _ _ _ _ _ _ _ _ _ _ _ X => so_i2l X (by decide +kernel), ?_⟩
  refine List.forall_mem_cons.mpr ⟨fun _ _ _ _ _ _ _ _ _ _ _ _ _ _ _ _ _ _ X => so_lmul X (by decide +kernel), ?_⟩
  refine List.forall_mem_cons.mpr ⟨fun _ _ _ _ _ _ _ _ _ _ _ _ _ _ _ _ _ _ X => so_lstore (k := 12) X (by decide +kernel), ?_⟩
  refine List.forall_mem_cons.mpr ⟨fun _ _ _ _ _ _ _ _ _ _ _ _ _ _ _ _ _ _ X => so_iload (k := 16) X (by decide +kernel), ?_⟩
  refine List.forall_mem_cons.mpr ⟨fun _ _ _ _ _ _ _ _ _ _ _ _ _ _ _ _ _ _ X => so_istore (k := 14) X (by decide +kernel), ?_⟩
  refine List.forall_mem_cons.mpr ⟨fun _ _ _ _ _ _ _ _ _ _ _ _ _ _ _ _ _ _ X => so_iinc (k := 15) (n := 1) X (by decide +kernel), ?_⟩
  refine List.forall_mem_cons.mpr ⟨fun _ _ _ _ _ _ _ _ _ _ _ _ _ _ _ _ _ _ X => so_goto (off := -84) (tgt := 64) X (by decide +kernel) (by decide), ?_⟩
  refine List.forall_mem_cons.mpr ⟨fun _ _ _ _ _ _ _ _ _ _ _ _ _ _ _ _ _ _ X => so_lload (k := 10) X (by decide +kernel), ?_⟩
  refine List.forall_mem_cons.mpr ⟨fun _ _ _ _ _ _ _ _ _ _ _ _ _ _ _ _ _ _ X => so_lload (k := 12) X (by decide +kernel), ?_⟩
  refine List.forall_mem_cons.mpr ⟨fun _ _ _ _ _ _ _ _ _ _ _ _ _ _ _ _ _ _ X => so_lcmp X (by decide +kernel), ?_⟩
  refine List.forall_mem_cons.mpr ⟨fun _ _ _ _ _ _ _ _ _ _ _ _ _ _ _ _ _ _ X => so_if_ne (off := 33) (tgt := 189) X (by decide +kernel) (by decide), ?_⟩
  refine List.forall_mem_cons.mpr ⟨fun _ _ _ _ _ _ _ _ _ _ _ _ _ _ _ _ _ _ X => so_iload (k := 8) X (by decide +kernel), ?_⟩
  refine List.forall_mem_cons.mpr ⟨fun _ _ _ _ _ _ _ _ _ _ _ _ _ _ _ _ _ _ X => so_iconst (n := 1) X (by decide +kernel), ?_⟩
  refine List.forall_mem_cons.mpr ⟨fun _ _ _ _ _ _ _ _ _ _ _ _ _ _ _ _ _ _ X => so_icmp_gt (off := 11) (tgt := 173) X (by decide +kernel) (by decide), ?_⟩
  refine List.forall_mem_cons.mpr ⟨fun _ _ _ _ _ _ _ _ _ _ _ _ _ _ _ _ _ _ X => so_lload (k := 10) X (by decide +kernel), ?_⟩
  refine List.forall_mem_cons.mpr ⟨fun _ _ _ _ _ _ _ _ _ _ _ _ _ _ _ _ _ _ X => so_lload (k := 6) X (by decide +kernel), ?_⟩
  refine List.forall_mem_cons.mpr ⟨fun _ _ _ _ _ _ _ _ _ _ _ _ _ _ _ _ _ _ X => so_lcmp X (by decide +kernel), ?_⟩
  refine List.forall_mem_cons.mpr ⟨fun _ _ _ _ _ _ _ _ _ _ _ _ _ _ _ _ _ _ X => so_if_gt (off := 19) (tgt := 189) X (by decide +kernel) (by decide), ?_⟩
  refine List.forall_mem_cons.mpr ⟨fun _ _ _ _ _ _ _ _ _ _ _ _ _ _ _ _ _ _ X => so_iload (k := 9) X (by decide +kernel), ?_⟩
  refine List.forall_mem_cons.mpr ⟨fun _ _ _ _ _ _ _ _ _ _ _ _ _ _ _ _ _ _ X => so_if_gt (off := 10) (tgt := 185) X (by decide +kernel) (by decide), ?_⟩
  refine List.forall_mem_cons.mpr ⟨fun _ _ _ _ _ _ _ _ _ _ _ _ _ _ _ _ _ _ X => so_lload (k := 10) X (by decide +kernel), ?_⟩
  refine List.forall_mem_cons.mpr ⟨fun _ _ _ _ _ _ _ _ _ _ _ _ _ _ _ _ _ _ X => so_lconst (n := 0) X (by decide +kernel), ?_⟩
  refine List.forall_mem_cons.mpr ⟨fun _ _ _ _ _ _ _ _ _ _ _ _ _ _ _ _ _ _ X => so_lcmp X (by decide +kernel), ?_⟩
  refine List.forall_mem_cons.mpr ⟨fun _ _ _ _ _ _ _ _ _ _ _ _ _ _ _ _ _ _ X => so_if_le (off := 7) (tgt := 189) X (by decide +kernel) (by decide), ?_⟩
  refine List.forall_mem_cons.mpr ⟨fun _ _ _ _ _ _ _ _ _ _ _ _ _ _ _ _ _ _ X => so_iconst (n := 1) X (by decide +kernel), ?_⟩
  refine List.forall_mem_cons.mpr ⟨fun _ _ _ _ _ _ _ _ _ _ _ _ _ _ _ _ _ _ X => so_goto (off := 4) (tgt := 190) X (by decide +kernel) (by decide), ?_⟩
  refine List.forall_mem_cons.mpr ⟨fun _ _ _ _ _ _ _ _ _ _ _ _ _ _ _ _ _ _ X => so_iconst (n := 0) X (by decide +kernel), ?_⟩
  refine List.forall_mem_cons.mpr ⟨fun _ _ _ _ _ _ _ _ _ _ _ _ _ _ _ _ _ _ X => so_istore (k := 5) X (by decide +kernel), ?_⟩
  refine List.forall_mem_cons.mpr ⟨fun _ _ _ _ _ _ _ _ _ _ _ _ _ _ _ _ _ _ X => so_lload (k := 10) X (by decide +kernel), ?_⟩
  refine List.forall_mem_cons.mpr ⟨fun _ _ _ _ _ _ _ _ _ _ _ _ _ _ _ _ _ _ X => so_lstore (k := 6) X (by decide +kernel), ?_⟩
  refine List.forall_mem_cons.mpr ⟨fun _ _ _ _ _ _ _ _ _ _ _ _ _ _ _ _ _ _ X => so_iinc (k := 8) (n := 1) X (by decide +kernel), ?_⟩
  refine List.forall_mem_cons.mpr ⟨fun _ _ _ _ _ _ _ _ _ _ _ _ _ _ _ _ _ _ X => so_goto (off := -188) (tgt := 11) X (by decide +kernel) (by decide), ?_⟩
  refine List.forall_mem_cons.mpr ⟨fun _ _ _ _ _ _ _ _ _ _ _ _ _ _ _ _ _ _ X => so_iload (k := 5) X (by decide +kernel), ?_⟩
  refine List.forall_mem_cons.mpr ⟨fun _ _ _ _ _ _ _ _ _ _ _ _ _ _ _ _ _ _ X => so_if_eq (off := 37) (tgt := 241) X (by decide +kernel) (by decide), ?_⟩
  refine List.forall_mem_cons.mpr ⟨fun _ _ _ _ _ _ _ _ _ _ _ _ _ _ _ _ _ _ X => so_aload_n (k := 0) X (by decide +kernel), ?_⟩
  refine List.forall_mem_cons.mpr ⟨fun _ _ _ _ _ _ _ _ _ _ _ _ _ _ _ _ _ _ X => so_bipush (n := 9) X (by decide +kernel) (by decide +kernel), ?_⟩
  refine List.forall_mem_cons.mpr ⟨fun _ _ _ _ _ _ _ _ _ _ _ _ _ _ _ _ _ _ X => so_callV (i := 73) (cn := 8) (n := 1) X rfl rfl rfl wq_240 wq_241 wq_242 wq_19 wd_73 wc_73 (by decide +kernel), ?_⟩
  refine List.forall_mem_cons.mpr ⟨fun _ _ _ _ _ _ _ _ _ _ _ _ _ _ _ _ _ _ X => so_aload_n (k := 0) X (by decide +kernel), ?_⟩
  refine List.forall_mem_cons.mpr ⟨fun _ _ _ _ _ _ _ _ _ _ _ _ _ _ _ _ _ _ X => so_bipush (n := 8) X (by decide +kernel) (by decide +kernel), ?_⟩
  refine List.forall_mem_cons.mpr ⟨fun _ _ _ _ _ _ _ _ _ _ _ _ _ _ _ _ _ _ X => so_callV (i := 73) (cn := 8) (n := 1) X rfl rfl rfl wq_240 wq_241 wq_242 wq_19 wd_73 wc_73 (by decide +kernel), ?_⟩
  refine List.forall_mem_cons.mpr ⟨fun _ _ _ _ _ _ _ _ _ _ _ _ _ _ _ _ _ _ X => so_lcmp X (by decide +kernel), ?_⟩
  refine List.forall_mem_cons.mpr ⟨fun _ _ _ _ _ _ _ _ _ _ _ _ _ _ _ _ _ _ X => so_if_gt (off := 21) (tgt := 241) X (by decide +kernel) (by decide), ?_⟩
  refine List.forall_mem_cons.mpr ⟨fun _ _ _ _ _ _ _ _ _ _ _ _ _ _ _ _ _ _ X => so_aload_n (k := 0) X (by decide +kernel), ?_⟩
  refine List.forall_mem_cons.mpr ⟨fun _ _ _ _ _ _ _ _ _ _ _ _ _ _ _ _ _ _ X => so_bipush (n := 8) X (by decide +kernel) (by decide +kernel), ?_⟩
  refine List.forall_mem_cons.mpr ⟨fun _ _ _ _ _ _ _ _ _ _ _ _ _ _ _ _ _ _ X => so_iconst (n := 0) X (by decide +kernel), ?_⟩
  refine List.forall_mem_cons.mpr ⟨fun _ _ _ _ _ _ _ _ _ _ _ _ _ _ _ _ _ _ X => so_iload_n (k := 1) X (by decide +kernel), ?_⟩
  refine List.forall_mem_cons.mpr ⟨fun _ _ _ _ _ _ _ _ _ _ _ _ _ _ _ _ _ _ X => so_callSW (i := 92) (n := 4) X rfl wq_476 wq_477 wq_18 wd_92 wc_92 (by decide +kernel), ?_⟩
  refine List.forall_mem_cons.mpr ⟨fun _ _ _ _ _ _ _ _ _ _ _ _ _ _ _ _ _ _ X => so_sipush (n := (-1011)) X (by decide +kernel) (by decide +kernel), ?_⟩
  refine List.forall_mem_cons.mpr ⟨fun _ _ _ _ _ _ _ _ _ _ _ _ _ _ _ _ _ _ X => so_icmp_ne (off := 7) (tgt := 241) X (by decide +kernel) (by decide), ?_⟩
  refine List.forall_mem_cons.mpr ⟨fun _ _ _ _ _ _ _ _ _ _ _ _ _ _ _ _ _ _ X => so_iconst (n := 1) X (by decide +kernel), ?_⟩
  refine List.forall_mem_cons.mpr ⟨fun _ _ _ _ _ _ _ _ _ _ _ _ _ _ _ _ _ _ X => so_goto (off := 4) (tgt := 242) X (by decide +kernel) (by decide), ?_⟩
  refine List.forall_mem_cons.mpr ⟨fun _ _ _ _ _ _ _ _ _ _ _ _ _ _ _ _ _ _ X => so_iconst (n := 0) X (by decide +kernel), ?_⟩
  refine List.forall_mem_cons.mpr ⟨fun _ _ _ _ _ _ _ _ _ _ _ _ _ _ _ _ _ _ X => so_zret X rfl (by decide +kernel), ?_⟩
  exact fun _ h => absurd h List.not_mem_nil
set_option maxRecDepth 100000 in
set_option maxHeartbeats 4000000 in
theorem sj_95 {L : Nat} {xs : Nat → Int32} : ∀ q ∈ cd_95, SJ L xs (md_95) q := by
  refine List.forall_mem_cons.mpr ⟨fun _ _ _ _ _ _ _ _ _ _ _ _ _ _ _ _ _ _ X => so_iconst (n := 1) X (by decide +kernel), ?_⟩
  refine List.forall_mem_cons.mpr ⟨fun _ _ _ _ _ _ _ _ _ _ _ _ _ _ _ _ _ _ X => so_istore_n (k := 3) X (by decide +kernel), ?_⟩
  refine List.forall_mem_cons.mpr ⟨fun _ _ _ _ _ _ _ _ _ _ _ _ _ _ _ _ _ _ X => so_iconst (n := 0) X (by decide +kernel), ?_⟩
  refine List.forall_mem_cons.mpr ⟨fun _ _ _ _ _ _ _ _ _ _ _ _ _ _ _ _ _ _ X => so_istore (k := 4) X (by decide +kernel), ?_⟩
  refine List.forall_mem_cons.mpr ⟨fun _ _ _ _ _ _ _ _ _ _ _ _ _ _ _ _ _ _ X => so_iload (k := 4) X (by decide +kernel), ?_⟩
  refine List.forall_mem_cons.mpr ⟨fun _ _ _ _ _ _ _ _ _ _ _ _ _ _ _ _ _ _ X => so_iload_n (k := 1) X (by decide +kernel), ?_⟩
  refine List.forall_mem_cons.mpr ⟨fun _ _ _ _ _ _ _ _ _ _ _ _ _ _ _ _ _ _ X => so_icmp_ge (off := 127) (tgt := 135) X (by decide +kernel) (by decide), ?_⟩
  refine List.forall_mem_cons.mpr ⟨fun _ _ _ _ _ _ _ _ _ _ _ _ _ _ _ _ _ _ X => so_iload_n (k := 3) X (by decide +kernel), ?_⟩
  refine List.forall_mem_cons.mpr ⟨fun _ _ _ _ _ _ _ _ _ _ _ _ _ _ _ _ _ _ X => so_if_eq (off := 123) (tgt := 135) X (by decide +kernel) (by decide), ?_⟩
  refine List.forall_mem_cons.mpr ⟨fun _ _ _ _ _ _ _ _ _ _ _ _ _ _ _ _ _ _ X => so_iconst (n := 0) X (by decide +kernel), ?_⟩
  refine List.forall_mem_cons.mpr ⟨fun _ _ _ _ _ _ _ _ _ _ _ _ _ _ _ _ _ _ X => so_istore (k := 5) X (by decide +kernel), ?_⟩
  refine List.forall_mem_cons.mpr ⟨fun _ _ _ _ _ _ _ _ _ _ _ _ _ _ _ _ _ _ X => so_iconst (n := 0) X (by decide +kernel), ?_⟩
  refine List.forall_mem_cons.mpr ⟨fun _ _ _ _ _ _ _ _ _ _ _ _ _ _ _ _ _ _ X => so_istore (k := 6) X (by decide +kernel), ?_⟩
  refine List.forall_mem_cons.mpr ⟨fun _ _ _ _ _ _ _ _ _ _ _ _ _ _ _ _ _ _ X => so_iload (k := 6) X (by decide +kernel), ?_⟩
  refine List.forall_mem_cons.mpr ⟨fun _ _ _ _ _ _ _ _ _ _ _ _ _ _ _ _ _ _ X => so_iconst (n := 5) X (by decide +kernel), ?_⟩
  refine List.forall_mem_cons.mpr ⟨fun _ _ _ _ _ _ _ _ _ _ _ _ _ _ _ _ _ _ X => so_icmp_ge (off := 79) (tgt := 103) X (by decide +kernel) (by decide), ?_⟩
  refine List.forall_mem_cons.mpr ⟨fun _ _ _ _ _ _ _ _ _ _ _ _ _ _ _ _ _ _ X => so_iload_n (k := 3) X (by decide +kernel), ?_⟩
  refine List.forall_mem_cons.mpr ⟨fun _ _ _ _ _ _ _ _ _ _ _ _ _ _ _ _ _ _ X => so_if_eq (off := 75) (tgt := 103) X (by decide +kernel) (by decide), ?_⟩
  refine List.forall_mem_cons.mpr ⟨fun _ _ _ _ _ _ _ _ _ _ _ _ _ _ _ _ _ _ X => so_aload_n (k := 0) X (by decide +kernel), ?_⟩
  refine List.forall_mem_cons.mpr ⟨fun _ _ _ _ _ _ _ _ _ _ _ _ _ _ _ _ _ _ X => so_bipush (n := 10) X (by decide +kernel) (by decide +kernel), ?_⟩
  refine List.forall_mem_cons.mpr ⟨fun _ _ _ _ _ _ _ _ _ _ _ _ _ _ _ _ _ _ X => so_iload (k := 4) X (by decide +kernel), ?_⟩
  refine List.forall_mem_cons.mpr ⟨fun _ _ _ _ _ _ _ _ _ _ _ _ _ _ _ _ _ _ X => so_iload (k := 6) X (by decide +kernel), ?_⟩
  refine List.forall_mem_cons.mpr ⟨fun _ _ _ _ _ _ _ _ _ _ _ _ _ _ _ _ _ _ X => so_callSW (i := 92) (n := 4) X rfl wq_476 wq_477 wq_18 wd_92 wc_92 (by decide +kernel), ?_⟩
  refine List.forall_mem_cons.mpr ⟨fun _ _ _ _ _ _ _ _ _ _ _ _ _ _ _ _ _ _ X => so_istore (k := 7) X (by decide +kernel), ?_⟩
  refine List.forall_mem_cons.mpr ⟨fun _ _ _ _ _ _ _ _ _ _ _ _ _ _ _ _ _ _ X => so_iload (k := 5) X (by decide +kernel), ?_⟩
  refine List.forall_mem_cons.mpr ⟨fun _ _ _ _ _ _ _ _ _ _ _ _ _ _ _ _ _ _ X => so_iload (k := 7) X (by decide +kernel), ?_⟩
  refine List.forall_mem_cons.mpr ⟨fun _ _ _ _ _ _ _ _ _ _ _ _ _ _ _ _ _ _ X => so_iadd X (by decide +kernel), ?_⟩
  refine List.forall_mem_cons.mpr ⟨fun _ _ _ _ _ _ _ _ _ _ _ _ _ _ _ _ _ _ X => so_istore (k := 5) X (by decide +kernel), ?_⟩
  refine List.forall_mem_cons.mpr ⟨fun _ _ _ _ _ _ _ _ _ _ _ _ _ _ _ _ _ _ X => so_iload (k := 7) X (by decide +kernel), ?_⟩
  refine List.forall_mem_cons.mpr ⟨fun _ _ _ _ _ _ _ _ _ _ _ _ _ _ _ _ _ _ X => so_if_lt (off := 43) (tgt := 95) X (by decide +kernel) (by decide), ?_⟩
  refine List.forall_mem_cons.mpr ⟨fun _ _ _ _ _ _ _ _ _ _ _ _ _ _ _ _ _ _ X => so_iload (k := 7) X (by decide +kernel), ?_⟩
  refine List.forall_mem_cons.mpr ⟨fun _ _ _ _ _ _ _ _ _ _ _ _ _ _ _ _ _ _ X => so_sipush (n := 1000) X (by decide +kernel) (by decide +kernel), ?_⟩
  refine List.forall_mem_cons.mpr ⟨fun _ _ _ _ _ _ _ _ _ _ _ _ _ _ _ _ _ _ X => so_icmp_gt (off := 35) (tgt := 95) X (by decide +kernel) (by decide), ?_⟩
  refine List.forall_mem_cons.mpr ⟨fun _ _ _ _ _ _ _ _ _ _ _ _ _ _ _ _ _ _ X => so_aload_n (k := 2) X (by decide +kernel), ?_⟩
  refine List.forall_mem_cons.mpr ⟨fun _ _ _ _ _ _ _ _ _ _ _ _ _ _ _ _ _ _ X => so_iload (k := 4) X (by decide +kernel), ?_⟩
  refine List.forall_mem_cons.mpr ⟨fun _ _ _ _ _ _ _ _ _ _ _ _ _ _ _ _ _ _ X => so_iald X (by decide +kernel), ?_⟩
  refine List.forall_mem_cons.mpr ⟨fun _ _ _ _ _ _ _ _ _ _ _ _ _ _ _ _ _ _ X => so_if_lt (off := 24) (tgt := 91) X (by decide +kernel) (by decide), ?_⟩
  refine List.forall_mem_cons.mpr ⟨fun _ _ _ _ _ _ _ _ _ _ _ _ _ _ _ _ _ _ X => so_iload (k := 7) X (by decide +kernel), ?_⟩
  refine List.forall_mem_cons.mpr ⟨fun _ _ _ _ _ _ _ _ _ _ _ _ _ _ _ _ _ _ X => so_aload_n (k := 2) X (by decide +kernel), ?_⟩
  refine List.forall_mem_cons.mpr ⟨fun _ _ _ _ _ _ _ _ _ _ _ _ _ _ _ _ _ _ X => so_iload (k := 4) X (by decide +kernel), ?_⟩
  refine List.forall_mem_cons.mpr ⟨fun _ _ _ _ _ _ _ _ _ _ _ _ _ _ _ _ _ _ X => so_iald X (by decide +kernel), ?_⟩
  refine List.forall_mem_cons.mpr ⟨fun _ _ _ _ _ _ _ _ _ _ _ _ _ _ _ _ _ _ X => so_iload (k := 6) X (by decide +kernel), ?_⟩
  refine List.forall_mem_cons.mpr ⟨fun _ _ _ _ _ _ _ _ _ _ _ _ _ _ _ _ _ _ X => so_icmp_ne (off := 9) (tgt := 87) X (by decide +kernel) (by decide), ?_⟩
  refine List.forall_mem_cons.mpr ⟨fun _ _ _ _ _ _ _ _ _ _ _ _ _ _ _ _ _ _ X => so_sipush (n := 1000) X (by decide +kernel) (by decide +kernel), ?_⟩
  refine List.forall_mem_cons.mpr ⟨fun _ _ _ _ _ _ _ _ _ _ _ _ _ _ _ _ _ _ X => so_goto (off := 4) (tgt := 88) X (by decide +kernel) (by decide), ?_⟩
  refine List.forall_mem_cons.mpr ⟨fun _ _ _ _ _ _ _ _ _ _ _ _ _ _ _ _ _ _ X => so_iconst (n := 0) X (by decide +kernel), ?_⟩
  refine List.forall_mem_cons.mpr ⟨fun _ _ _ _ _ _ _ _ _ _ _ _ _ _ _ _ _ _ X => so_icmp_ne (off := 7) (tgt := 95) X (by decide +kernel) (by decide), ?_⟩
  refine List.forall_mem_cons.mpr ⟨fun _ _ _ _ _ _ _ _ _ _ _ _ _ _ _ _ _ _ X => so_iconst (n := 1) X (by decide +kernel), ?_⟩
  refine List.forall_mem_cons.mpr ⟨fun _ _ _ _ _ _ _ _ _ _ _ _ _ _ _ _ _ _ X => so_goto (off := 4) (tgt := 96) X (by decide +kernel) (by decide), ?_⟩
  refine List.forall_mem_cons.mpr ⟨fun _ _ _ _ _ _ _ _ _ _ _ _ _ _ _ _ _ _ X => so_iconst (n := 0) X (by decide +kernel), ?_⟩
  refine List.forall_mem_cons.mpr ⟨fun _ _ _ _ _ _ _ _ _ _ _ _ _ _ _ _ _ _ X => so_istore_n (k := 3) X (by decide +kernel), ?_⟩
  refine List.forall_mem_cons.mpr ⟨fun _ _ _ _ _ _ _ _ _ _ _ _ _ _ _ _ _ _ X => so_iinc (k := 6) (n := 1) X (by decide +kernel), ?_⟩
  refine List.forall_mem_cons.mpr ⟨fun _ _ _ _ _ _ _ _ _ _ _ _ _ _ _ _ _ _ X => so_goto (off := -79) (tgt := 21) X (by decide +kernel) (by decide), ?_⟩
  refine List.forall_mem_cons.mpr ⟨fun _ _ _ _ _ _ _ _ _ _ _ _ _ _ _ _ _ _ X => so_iload_n (k := 3) X (by decide +kernel), ?_⟩
  refine List.forall_mem_cons.mpr ⟨fun _ _ _ _ _ _ _ _ _ _ _ _ _ _ _ _ _ _ X => so_if_eq (off := 23) (tgt := 127) X (by decide +kernel) (by decide), ?_⟩
  refine List.forall_mem_cons.mpr ⟨fun _ _ _ _ _ _ _ _ _ _ _ _ _ _ _ _ _ _ X => so_iload (k := 5) X (by decide +kernel), ?_⟩
  refine List.forall_mem_cons.mpr ⟨fun _ _ _ _ _ _ _ _ _ _ _ _ _ _ _ _ _ _ X => so_sipush (n := 995) X (by decide +kernel) (by decide +kernel), ?_⟩
  refine List.forall_mem_cons.mpr ⟨fun _ _ _ _ _ _ _ _ _ _ _ _ _ _ _ _ _ _ X => so_icmp_le (off := 15) (tgt := 127) X (by decide +kernel) (by decide), ?_⟩
  refine List.forall_mem_cons.mpr ⟨fun _ _ _ _ _ _ _ _ _ _ _ _ _ _ _ _ _ _ X => so_iload (k := 5) X (by decide +kernel), ?_⟩
  refine List.forall_mem_cons.mpr ⟨fun _ _ _ _ _ _ _ _ _ _ _ _ _ _ _ _ _ _ X => so_sipush (n := 1000) X (by decide +kernel) (by decide +kernel), ?_⟩
  refine List.forall_mem_cons.mpr ⟨fun _ _ _ _ _ _ _ _ _ _ _ _ _ _ _ _ _ _ X => so_icmp_gt (off := 7) (tgt := 127) X (by decide +kernel) (by decide), ?_⟩
  refine List.forall_mem_cons.mpr ⟨fun _ _ _ _ _ _ _ _ _ _ _ _ _ _ _ _ _ _ X => so_iconst (n := 1) X (by decide +kernel), ?_⟩
  refine List.forall_mem_cons.mpr ⟨fun _ _ _ _ _ _ _ _ _ _ _ _ _ _ _ _ _ _ X => so_goto (off := 4) (tgt := 128) X (by decide +kernel) (by decide), ?_⟩
  refine List.forall_mem_cons.mpr ⟨fun _ _ _ _ _ _ _ _ _ _ _ _ _ _ _ _ _ _ X => so_iconst (n := 0) X (by decide +kernel), ?_⟩
  refine List.forall_mem_cons.mpr ⟨fun _ _ _ _ _ _ _ _ _ _ _ _ _ _ _ _ _ _ X => so_istore_n (k := 3) X (by decide +kernel), ?_⟩
  refine List.forall_mem_cons.mpr ⟨fun _ _ _ _ _ _ _ _ _ _ _ _ _ _ _ _ _ _ X => so_iinc (k := 4) (n := 1) X (by decide +kernel), ?_⟩
  refine List.forall_mem_cons.mpr ⟨fun _ _ _ _ _ _ _ _ _ _ _ _ _ _ _ _ _ _ X => so_goto (off := -127) (tgt := 5) X (by decide +kernel) (by decide), ?_⟩
  refine List.forall_mem_cons.mpr ⟨fun _ _ _ _ _ _ _ _ _ _ _ _ _ _ _ _ _ _ X => so_iload_n (k := 3) X (by decide +kernel), ?_⟩
  refine List.forall_mem_cons.mpr ⟨fun _ _ _ _ _ _ _ _ _ _ _ _ _ _ _ _ _ _ X => so_zret X rfl (by decide +kernel), ?_⟩
  exact fun _ h => absurd h List.not_mem_nil
set_option maxRecDepth 100000 in
set_option maxHeartbeats 4000000 in
theorem sj_96 {L : Nat} {xs : Nat → Int32} (hL : L ≤ 260) : ∀ q ∈ cd_96 L xs, SJ L xs (md_96 L xs) q := by
  refine List.forall_mem_cons.mpr ⟨fun _ _ _ _ _ _ _ _ _ _ _ _ _ _ _ _ _ _ X => so_new (cn := 8) X rfl wq_36 wq_37 wq_19 (show decode code 0 = .ok (.new 8, 3) from by decide +kernel), ?_⟩
  refine List.forall_mem_cons.mpr ⟨fun _ _ _ _ _ _ _ _ _ _ _ _ _ _ _ _ _ _ X => so_dup X (show decode code 3 = .ok (.dup, 1) from by decide +kernel), ?_⟩
  refine List.forall_mem_cons.mpr ⟨fun _ _ _ _ _ _ _ _ _ _ _ _ _ _ _ _ _ _ X => so_callI (i := 61) (cn := 8) (n := 0) X rfl rfl rfl wq_38 wq_39 wq_19 wd_61 wc_61 (show decode code 4 = .ok (.invokespecial 73, 3) from by decide +kernel), ?_⟩
  refine List.forall_mem_cons.mpr ⟨fun _ _ _ _ _ _ _ _ _ _ _ _ _ _ _ _ _ _ X => so_astore_n (k := 1) X (show decode code 7 = .ok (.astore_n 1, 1) from by decide +kernel), ?_⟩
  refine List.forall_mem_cons.mpr ⟨fun _ _ _ _ _ _ _ _ _ _ _ _ _ _ _ _ _ _ X => so_bipush (n := 25) X (by decide +kernel) (show decode code 8 = .ok (.bipush 25, 2) from by decide +kernel), ?_⟩
  refine List.forall_mem_cons.mpr ⟨fun _ _ _ _ _ _ _ _ _ _ _ _ _ _ _ _ _ _ X => so_newa_i X wq_88 (show decode code 10 = .ok (.newarray .int, 2) from by decide +kernel), ?_⟩
  refine List.forall_mem_cons.mpr ⟨fun _ _ _ _ _ _ _ _ _ _ _ _ _ _ _ _ _ _ X => so_astore_n (k := 2) X (show decode code 12 = .ok (.astore_n 2, 1) from by decide +kernel), ?_⟩
  refine List.forall_mem_cons.mpr ⟨fun _ _ _ _ _ _ _ _ _ _ _ _ _ _ _ _ _ _ X => so_iconst (n := 5) X (show decode code 13 = .ok (.iconst 5, 1) from by decide +kernel), ?_⟩
  refine List.forall_mem_cons.mpr ⟨fun _ _ _ _ _ _ _ _ _ _ _ _ _ _ _ _ _ _ X => so_newa_i X wq_88 (show decode code 14 = .ok (.newarray .int, 2) from by decide +kernel), ?_⟩
  refine List.forall_mem_cons.mpr ⟨fun _ _ _ _ _ _ _ _ _ _ _ _ _ _ _ _ _ _ X => so_astore_n (k := 3) X (show decode code 16 = .ok (.astore_n 3, 1) from by decide +kernel), ?_⟩
  refine List.forall_mem_cons.mpr ⟨fun _ _ _ _ _ _ _ _ _ _ _ _ _ _ _ _ _ _ X => so_iconst (n := 0) X (show decode code 17 = .ok (.iconst 0, 1) from by decide +kernel), ?_⟩
  refine List.forall_mem_cons.mpr ⟨fun _ _ _ _ _ _ _ _ _ _ _ _ _ _ _ _ _ _ X => so_istore (k := 4) X (show decode code 18 = .ok (.istore 4, 2) from by decide +kernel), ?_⟩
  refine List.forall_mem_cons.mpr ⟨fun _ _ _ _ _ _ _ _ _ _ _ _ _ _ _ _ _ _ X => so_iconst (n := 0) X (show decode code 20 = .ok (.iconst 0, 1) from by decide +kernel), ?_⟩
  refine List.forall_mem_cons.mpr ⟨fun _ _ _ _ _ _ _ _ _ _ _ _ _ _ _ _ _ _ X => so_istore (k := 5) X (show decode code 21 = .ok (.istore 5, 2) from by decide +kernel), ?_⟩
  refine List.forall_mem_cons.mpr ⟨fun _ _ _ _ _ _ _ _ _ _ _ _ _ _ _ _ _ _ X => so_iconst (n := 0) X (show decode code 23 = .ok (.iconst 0, 1) from by decide +kernel), ?_⟩
  refine List.forall_mem_cons.mpr ⟨fun _ _ _ _ _ _ _ _ _ _ _ _ _ _ _ _ _ _ X => so_istore (k := 6) X (show decode code 24 = .ok (.istore 6, 2) from by decide +kernel), ?_⟩
  refine List.forall_mem_cons.mpr ⟨fun _ _ _ _ _ _ _ _ _ _ _ _ _ _ _ _ _ _ X => so_iconst (n := 0) X (show decode code 26 = .ok (.iconst 0, 1) from by decide +kernel), ?_⟩
  refine List.forall_mem_cons.mpr ⟨fun _ _ _ _ _ _ _ _ _ _ _ _ _ _ _ _ _ _ X => so_istore (k := 7) X (show decode code 27 = .ok (.istore 7, 2) from by decide +kernel), ?_⟩
  refine List.forall_mem_cons.mpr ⟨fun _ _ _ _ _ _ _ _ _ _ _ _ _ _ _ _ _ _ X => so_iconst (n := 0) X (show decode code 29 = .ok (.iconst 0, 1) from by decide +kernel), ?_⟩
  refine List.forall_mem_cons.mpr ⟨fun _ _ _ _ _ _ _ _ _ _ _ _ _ _ _ _ _ _ X => so_istore (k := 8) X (show decode code 30 = .ok (.istore 8, 2) from by decide +kernel), ?_⟩
  refine List.forall_mem_cons.mpr ⟨fun _ _ _ _ _ _ _ _ _ _ _ _ _ _ _ _ _ _ X => so_iconst (n := 1) X (show decode code 32 = .ok (.iconst 1, 1) from by decide +kernel), ?_⟩
  refine List.forall_mem_cons.mpr ⟨fun _ _ _ _ _ _ _ _ _ _ _ _ _ _ _ _ _ _ X => so_istore (k := 9) X (show decode code 33 = .ok (.istore 9, 2) from by decide +kernel), ?_⟩
  refine List.forall_mem_cons.mpr ⟨fun _ _ _ _ _ _ _ _ _ _ _ _ _ _ _ _ _ _ X => so_aload_n (k := 0) X (show decode code 35 = .ok (.aload_n 0, 1) from by decide +kernel), ?_⟩
  refine List.forall_mem_cons.mpr ⟨fun _ _ _ _ _ _ _ _ _ _ _ _ _ _ _ _ _ _ X => so_slen X (show decode code 36 = .ok (.arraylength, 1) from by decide +kernel), ?_⟩
  refine List.forall_mem_cons.mpr ⟨fun _ _ _ _ _ _ _ _ _ _ _ _ _ _ _ _ _ _ X => so_bipush (n := 60) X (by decide +kernel) (show decode code 37 = .ok (.bipush 60, 2) from by decide +kernel), ?_⟩
  refine List.forall_mem_cons.mpr ⟨fun _ _ _ _ _ _ _ _ _ _ _ _ _ _ _ _ _ _ X => so_icmp_ge (off := 9) (tgt := 48) X (show decode code 39 = .ok (.if_icmp .ge 9, 3) from by decide +kernel) (by decide), ?_⟩
  refine List.forall_mem_cons.mpr ⟨fun _ _ _ _ _ _ _ _ _ _ _ _ _ _ _ _ _ _ X => so_sipush (n := 140) X (by decide +kernel) (show decode code 42 = .ok (.sipush 140, 3) from by decide +kernel), ?_⟩
  refine List.forall_mem_cons.mpr ⟨fun _ _ _ _ _ _ _ _ _ _ _ _ _ _ _ _ _ _ X => so_goto (off := 20) (tgt := 65) X (show decode code 45 = .ok (.goto 20, 3) from by decide +kernel) (by decide), ?_⟩
  refine List.forall_mem_cons.mpr ⟨fun _ _ _ _ _ _ _ _ _ _ _ _ _ _ _ _ _ _ X => so_aload_n (k := 0) X (show decode code 48 = .ok (.aload_n 0, 1) from by decide +kernel), ?_⟩
  refine List.forall_mem_cons.mpr ⟨fun _ _ _ _ _ _ _ _ _ _ _ _ _ _ _ _ _ _ X => so_slen X (show decode code 49 = .ok (.arraylength, 1) from by decide +kernel), ?_⟩
  refine List.forall_mem_cons.mpr ⟨fun _ _ _ _ _ _ _ _ _ _ _ _ _ _ _ _ _ _ X => so_bipush (n := 110) X (by decide +kernel) (show decode code 50 = .ok (.bipush 110, 2) from by decide +kernel), ?_⟩
  refine List.forall_mem_cons.mpr ⟨fun _ _ _ _ _ _ _ _ _ _ _ _ _ _ _ _ _ _ X => so_icmp_ge (off := 10) (tgt := 62) X (show decode code 52 = .ok (.if_icmp .ge 10, 3) from by decide +kernel) (by decide), ?_⟩
  refine List.forall_mem_cons.mpr ⟨fun _ _ _ _ _ _ _ _ _ _ _ _ _ _ _ _ _ _ X => so_iconst (n := 2) X (show decode code 55 = .ok (.iconst 2, 1) from by decide +kernel), ?_⟩
  refine List.forall_mem_cons.mpr ⟨fun _ _ _ _ _ _ _ _ _ _ _ _ _ _ _ _ _ _ X => so_aload_n (k := 0) X (show decode code 56 = .ok (.aload_n 0, 1) from by decide +kernel), ?_⟩
  refine List.forall_mem_cons.mpr ⟨fun _ _ _ _ _ _ _ _ _ _ _ _ _ _ _ _ _ _ X => so_slen X (show decode code 57 = .ok (.arraylength, 1) from by decide +kernel), ?_⟩
  refine List.forall_mem_cons.mpr ⟨fun _ _ _ _ _ _ _ _ _ _ _ _ _ _ _ _ _ _ X => so_imul X (show decode code 58 = .ok (.imul, 1) from by decide +kernel), ?_⟩
  refine List.forall_mem_cons.mpr ⟨fun _ _ _ _ _ _ _ _ _ _ _ _ _ _ _ _ _ _ X => so_goto (off := 6) (tgt := 65) X (show decode code 59 = .ok (.goto 6, 3) from by decide +kernel) (by decide), ?_⟩
  refine List.forall_mem_cons.mpr ⟨fun _ _ _ _ _ _ _ _ _ _ _ _ _ _ _ _ _ _ X => so_sipush (n := 190) X (by decide +kernel) (show decode code 62 = .ok (.sipush 190, 3) from by decide +kernel), ?_⟩
  refine List.forall_mem_cons.mpr ⟨fun _ _ _ _ _ _ _ _ _ _ _ _ _ _ _ _ _ _ X => so_istore (k := 10) X (show decode code 65 = .ok (.istore 10, 2) from by decide +kernel), ?_⟩
  refine List.forall_mem_cons.mpr ⟨fun _ _ _ _ _ _ _ _ _ _ _ _ _ _ _ _ _ _ X => so_iconst (n := 0) X (show decode code 67 = .ok (.iconst 0, 1) from by decide +kernel), ?_⟩
  refine List.forall_mem_cons.mpr ⟨fun _ _ _ _ _ _ _ _ _ _ _ _ _ _ _ _ _ _ X => so_istore (k := 11) X (show decode code 68 = .ok (.istore 11, 2) from by decide +kernel), ?_⟩
  refine List.forall_mem_cons.mpr ⟨fun _ _ _ _ _ _ _ _ _ _ _ _ _ _ _ _ _ _ X => so_iload (k := 11) X (show decode code 70 = .ok (.iload 11, 2) from by decide +kernel), ?_⟩
  refine List.forall_mem_cons.mpr ⟨fun _ _ _ _ _ _ _ _ _ _ _ _ _ _ _ _ _ _ X => so_iload (k := 10) X (show decode code 72 = .ok (.iload 10, 2) from by decide +kernel), ?_⟩
  refine List.forall_mem_cons.mpr ⟨fun _ _ _ _ _ _ _ _ _ _ _ _ _ _ _ _ _ _ X => so_icmp_ge (off := 1203) (tgt := 1277) X (show decode code 74 = .ok (.if_icmp .ge 1203, 3) from by decide +kernel) (by decide), ?_⟩
  refine List.forall_mem_cons.mpr ⟨fun _ _ _ _ _ _ _ _ _ _ _ _ _ _ _ _ _ _ X => so_iload (k := 9) X (show decode code 77 = .ok (.iload 9, 2) from by decide +kernel), ?_⟩
  refine List.forall_mem_cons.mpr ⟨fun _ _ _ _ _ _ _ _ _ _ _ _ _ _ _ _ _ _ X => so_if_eq (off := 1198) (tgt := 1277) X (show decode code 79 = .ok (.ifCond .eq 1198, 3) from by decide +kernel) (by decide), ?_⟩
  refine List.forall_mem_cons.mpr ⟨fun _ _ _ _ _ _ _ _ _ _ _ _ _ _ _ _ _ _ X => so_aload_n (k := 0) X (show decode code 82 = .ok (.aload_n 0, 1) from by decide +kernel), ?_⟩
  refine List.forall_mem_cons.mpr ⟨fun _ _ _ _ _ _ _ _ _ _ _ _ _ _ _ _ _ _ X => so_iload (k := 11) X (show decode code 83 = .ok (.iload 11, 2) from by decide +kernel), ?_⟩
  refine List.forall_mem_cons.mpr ⟨fun _ _ _ _ _ _ _ _ _ _ _ _ _ _ _ _ _ _ X => so_callS (i := 93) (n := 2) X rfl wq_680 wq_681 wq_18 wd_93 wc_93 (show decode code 85 = .ok (.invokestatic 74, 3) from by decide +kernel), ?_⟩
  refine List.forall_mem_cons.mpr ⟨fun _ _ _ _ _ _ _ _ _ _ _ _ _ _ _ _ _ _ X => so_iconst (n := 5) X (show decode code 88 = .ok (.iconst 5, 1) from by decide +kernel), ?_⟩
  refine List.forall_mem_cons.mpr ⟨fun _ _ _ _ _ _ _ _ _ _ _ _ _ _ _ _ _ _ X => so_ishr X (show decode code 89 = .ok (.ishr, 1) from by decide +kernel), ?_⟩
  refine List.forall_mem_cons.mpr ⟨fun _ _ _ _ _ _ _ _ _ _ _ _ _ _ _ _ _ _ X => so_ldc (n := 134217727) (i := 78) X wq_692 (show decode code 90 = .ok (.ldc 78, 2) from by decide +kernel), ?_⟩
  refine List.forall_mem_cons.mpr ⟨fun _ _ _ _ _ _ _ _ _ _ _ _ _ _ _ _ _ _ X => so_iandm (y0 := 134217727) (M := 134217728) X (fun _ => m_27) (show decode code 92 = .ok (.iand, 1) from by decide +kernel), ?_⟩
  refine List.forall_mem_cons.mpr ⟨fun _ _ _ _ _ _ _ _ _ _ _ _ _ _ _ _ _ _ X => so_istore (k := 12) X (show decode code 93 = .ok (.istore 12, 2) from by decide +kernel), ?_⟩
  refine List.forall_mem_cons.mpr ⟨fun _ _ _ _ _ _ _ _ _ _ _ _ _ _ _ _ _ _ X => so_iload (k := 11) X (show decode code 95 = .ok (.iload 11, 2) from by decide +kernel), ?_⟩
  refine List.forall_mem_cons.mpr ⟨fun _ _ _ _ _ _ _ _ _ _ _ _ _ _ _ _ _ _ X => so_iconst (n := 3) X (show decode code 97 = .ok (.iconst 3, 1) from by decide +kernel), ?_⟩
  refine List.forall_mem_cons.mpr ⟨fun _ _ _ _ _ _ _ _ _ _ _ _ _ _ _ _ _ _ X => so_icmp_ge (off := 7) (tgt := 105) X (show decode code 98 = .ok (.if_icmp .ge 7, 3) from by decide +kernel) (by decide), ?_⟩
  refine List.forall_mem_cons.mpr ⟨fun _ _ _ _ _ _ _ _ _ _ _ _ _ _ _ _ _ _ X => so_iconst (n := 0) X (show decode code 101 = .ok (.iconst 0, 1) from by decide +kernel), ?_⟩
  refine List.forall_mem_cons.mpr ⟨fun _ _ _ _ _ _ _ _ _ _ _ _ _ _ _ _ _ _ X => so_goto (off := 23) (tgt := 125) X (show decode code 102 = .ok (.goto 23, 3) from by decide +kernel) (by decide), ?_⟩
  refine List.forall_mem_cons.mpr ⟨fun _ _ _ _ _ _ _ _ _ _ _ _ _ _ _ _ _ _ X => so_iload (k := 11) X (show decode code 105 = .ok (.iload 11, 2) from by decide +kernel), ?_⟩
  refine List.forall_mem_cons.mpr ⟨fun _ _ _ _ _ _ _ _ _ _ _ _ _ _ _ _ _ _ X => so_iconst (n := 5) X (show decode code 107 = .ok (.iconst 5, 1) from by decide +kernel), ?_⟩
  refine List.forall_mem_cons.mpr ⟨fun _ _ _ _ _ _ _ _ _ _ _ _ _ _ _ _ _ _ X => so_icmp_ge (off := 8) (tgt := 116) X (show decode code 108 = .ok (.if_icmp .ge 8, 3) from by decide +kernel) (by decide), ?_⟩
  refine List.forall_mem_cons.mpr ⟨fun _ _ _ _ _ _ _ _ _ _ _ _ _ _ _ _ _ _ X => so_bipush (n := 20) X (by decide +kernel) (show decode code 111 = .ok (.bipush 20, 2) from by decide +kernel), ?_⟩
  refine List.forall_mem_cons.mpr ⟨fun _ _ _ _ _ _ _ _ _ _ _ _ _ _ _ _ _ _ X => so_goto (off := 12) (tgt := 125) X (show decode code 113 = .ok (.goto 12, 3) from by decide +kernel) (by decide), ?_⟩
  refine List.forall_mem_cons.mpr ⟨fun _ _ _ _ _ _ _ _ _ _ _ _ _ _ _ _ _ _ X => so_aload_n (k := 0) X (show decode code 116 = .ok (.aload_n 0, 1) from by decide +kernel), ?_⟩
  refine List.forall_mem_cons.mpr ⟨fun _ _ _ _ _ _ _ _ _ _ _ _ _ _ _ _ _ _ X => so_iload (k := 11) X (show decode code 117 = .ok (.iload 11, 2) from by decide +kernel), ?_⟩
  refine List.forall_mem_cons.mpr ⟨fun _ _ _ _ _ _ _ _ _ _ _ _ _ _ _ _ _ _ X => so_callS (i := 93) (n := 2) X rfl wq_680 wq_681 wq_18 wd_93 wc_93 (show decode code 119 = .ok (.invokestatic 74, 3) from by decide +kernel), ?_⟩
  refine List.forall_mem_cons.mpr ⟨fun _ _ _ _ _ _ _ _ _ _ _ _ _ _ _ _ _ _ X => so_bipush (n := 31) X (by decide +kernel) (show decode code 122 = .ok (.bipush 31, 2) from by decide +kernel), ?_⟩
  refine List.forall_mem_cons.mpr ⟨fun _ _ _ _ _ _ _ _ _ _ _ _ _ _ _ _ _ _ X => so_iandm (y0 := 31) (M := 32) X (fun _ => m_31) (show decode code 124 = .ok (.iand, 1) from by decide +kernel), ?_⟩
  refine List.forall_mem_cons.mpr ⟨fun _ _ _ _ _ _ _ _ _ _ _ _ _ _ _ _ _ _ X => so_istore (k := 13) X (show decode code 125 = .ok (.istore 13, 2) from by decide +kernel), ?_⟩
  refine List.forall_mem_cons.mpr ⟨fun _ _ _ _ _ _ _ _ _ _ _ _ _ _ _ _ _ _ X => so_iload (k := 7) X (show decode code 127 = .ok (.iload 7, 2) from by decide +kernel), ?_⟩
  refine List.forall_mem_cons.mpr ⟨fun _ _ _ _ _ _ _ _ _ _ _ _ _ _ _ _ _ _ X => so_if_ne (off := 74) (tgt := 203) X (show decode code 129 = .ok (.ifCond .ne 74, 3) from by decide +kernel) (by decide), ?_⟩
  refine List.forall_mem_cons.mpr ⟨fun _ _ _ _ _ _ _ _ _ _ _ _ _ _ _ _ _ _ X => so_iload (k := 13) X (show decode code 132 = .ok (.iload 13, 2) from by decide +kernel), ?_⟩
  refine List.forall_mem_cons.mpr ⟨fun _ _ _ _ _ _ _ _ _ _ _ _ _ _ _ _ _ _ X => so_bipush (n := 24) X (by decide +kernel) (show decode code 134 = .ok (.bipush 24, 2) from by decide +kernel), ?_⟩
  refine List.forall_mem_cons.mpr ⟨fun _ _ _ _ _ _ _ _ _ _ _ _ _ _ _ _ _ _ X => so_icmp_ge (off := 67) (tgt := 203) X (show decode code 136 = .ok (.if_icmp .ge 67, 3) from by decide +kernel) (by decide), ?_⟩
  refine List.forall_mem_cons.mpr ⟨fun _ _ _ _ _ _ _ _ _ _ _ _ _ _ _ _ _ _ X => so_iconst (n := 1) X (show decode code 139 = .ok (.iconst 1, 1) from by decide +kernel), ?_⟩
  refine List.forall_mem_cons.mpr ⟨fun _ _ _ _ _ _ _ _ _ _ _ _ _ _ _ _ _ _ X => so_iload (k := 12) X (show decode code 140 = .ok (.iload 12, 2) from by decide +kernel), ?_⟩
  refine List.forall_mem_cons.mpr ⟨fun _ _ _ _ _ _ _ _ _ _ _ _ _ _ _ _ _ _ X => so_iconst (n := 4) X (show decode code 142 = .ok (.iconst 4, 1) from by decide +kernel), ?_⟩
  refine List.forall_mem_cons.mpr ⟨fun _ _ _ _ _ _ _ _ _ _ _ _ _ _ _ _ _ _ X => so_irem X (show decode code 143 = .ok (.irem, 1) from by decide +kernel), ?_⟩
  refine List.forall_mem_cons.mpr ⟨fun _ _ _ _ _ _ _ _ _ _ _ _ _ _ _ _ _ _ X => so_iadd X (show decode code 144 = .ok (.iadd, 1) from by decide +kernel), ?_⟩
  refine List.forall_mem_cons.mpr ⟨fun _ _ _ _ _ _ _ _ _ _ _ _ _ _ _ _ _ _ X => so_istore (k := 14) X (show decode code 145 = .ok (.istore 14, 2) from by decide +kernel), ?_⟩
  refine List.forall_mem_cons.mpr ⟨fun _ _ _ _ _ _ _ _ _ _ _ _ _ _ _ _ _ _ X => so_iconst (n := 0) X (show decode code 147 = .ok (.iconst 0, 1) from by decide +kernel), ?_⟩
  refine List.forall_mem_cons.mpr ⟨fun _ _ _ _ _ _ _ _ _ _ _ _ _ _ _ _ _ _ X => so_istore (k := 15) X (show decode code 148 = .ok (.istore 15, 2) from by decide +kernel), ?_⟩
  refine List.forall_mem_cons.mpr ⟨fun _ _ _ _ _ _ _ _ _ _ _ _ _ _ _ _ _ _ X => so_iload (k := 15) X (show decode code 150 = .ok (.iload 15, 2) from by decide +kernel), ?_⟩
  refine List.forall_mem_cons.mpr ⟨fun _ _ _ _ _ _ _ _ _ _ _ _ _ _ _ _ _ _ X => so_iload (k := 14) X (show decode code 152 = .ok (.iload 14, 2) from by decide +kernel), ?_⟩
  refine List.forall_mem_cons.mpr ⟨fun _ _ _ _ _ _ _ _ _ _ _ _ _ _ _ _ _ _ X => so_icmp_ge (off := 46) (tgt := 200) X (show decode code 154 = .ok (.if_icmp .ge 46, 3) from by decide +kernel) (by decide), ?_⟩
  refine List.forall_mem_cons.mpr ⟨fun _ _ _ _ _ _ _ _ _ _ _ _ _ _ _ _ _ _ X => so_iload (k := 9) X (show decode code 157 = .ok (.iload 9, 2) from by decide +kernel), ?_⟩
  refine List.forall_mem_cons.mpr ⟨fun _ _ _ _ _ _ _ _ _ _ _ _ _ _ _ _ _ _ X => so_if_eq (off := 41) (tgt := 200) X (show decode code 159 = .ok (.ifCond .eq 41, 3) from by decide +kernel) (by decide), ?_⟩
  refine List.forall_mem_cons.mpr ⟨fun _ _ _ _ _ _ _ _ _ _ _ _ _ _ _ _ _ _ X => so_aload_n (k := 1) X (show decode code 162 = .ok (.aload_n 1, 1) from by decide +kernel), ?_⟩
  refine List.forall_mem_cons.mpr ⟨fun _ _ _ _ _ _ _ _ _ _ _ _ _ _ _ _ _ _ X => so_iconst (n := 0) X (show decode code 163 = .ok (.iconst 0, 1) from by decide +kernel), ?_⟩
  refine List.forall_mem_cons.mpr ⟨fun _ _ _ _ _ _ _ _ _ _ _ _ _ _ _ _ _ _ X => so_bipush (n := 97) X (by decide +kernel) (show decode code 164 = .ok (.bipush 97, 2) from by decide +kernel), ?_⟩
  refine List.forall_mem_cons.mpr ⟨fun _ _ _ _ _ _ _ _ _ _ _ _ _ _ _ _ _ _ X => so_iload (k := 12) X (show decode code 166 = .ok (.iload 12, 2) from by decide +kernel), ?_⟩
  refine List.forall_mem_cons.mpr ⟨fun _ _ _ _ _ _ _ _ _ _ _ _ _ _ _ _ _ _ X => so_iload (k := 15) X (show decode code 168 = .ok (.iload 15, 2) from by decide +kernel), ?_⟩
  refine List.forall_mem_cons.mpr ⟨fun _ _ _ _ _ _ _ _ _ _ _ _ _ _ _ _ _ _ X => so_iconst (n := 4) X (show decode code 170 = .ok (.iconst 4, 1) from by decide +kernel), ?_⟩
  refine List.forall_mem_cons.mpr ⟨fun _ _ _ _ _ _ _ _ _ _ _ _ _ _ _ _ _ _ X => so_iadd X (show decode code 171 = .ok (.iadd, 1) from by decide +kernel), ?_⟩
  refine List.forall_mem_cons.mpr ⟨fun _ _ _ _ _ _ _ _ _ _ _ _ _ _ _ _ _ _ X => so_ishr X (show decode code 172 = .ok (.ishr, 1) from by decide +kernel), ?_⟩
  refine List.forall_mem_cons.mpr ⟨fun _ _ _ _ _ _ _ _ _ _ _ _ _ _ _ _ _ _ X => so_iconst (n := 3) X (show decode code 173 = .ok (.iconst 3, 1) from by decide +kernel), ?_⟩
  refine List.forall_mem_cons.mpr ⟨fun _ _ _ _ _ _ _ _ _ _ _ _ _ _ _ _ _ _ X => so_irem X (show decode code 174 = .ok (.irem, 1) from by decide +kernel), ?_⟩
  refine List.forall_mem_cons.mpr ⟨fun _ _ _ _ _ _ _ _ _ _ _ _ _ _ _ _ _ _ X => so_iadd X (show decode code 175 = .ok (.iadd, 1) from by decide +kernel), ?_⟩
  refine List.forall_mem_cons.mpr ⟨fun _ _ _ _ _ _ _ _ _ _ _ _ _ _ _ _ _ _ X => so_iconst (n := 0) X (show decode code 176 = .ok (.iconst 0, 1) from by decide +kernel), ?_⟩
  refine List.forall_mem_cons.mpr ⟨fun _ _ _ _ _ _ _ _ _ _ _ _ _ _ _ _ _ _ X => so_callSW (i := 92) (n := 4) X rfl wq_476 wq_477 wq_18 wd_92 wc_92 (show decode code 177 = .ok (.invokestatic 70, 3) from by decide +kernel), ?_⟩
  refine List.forall_mem_cons.mpr ⟨fun _ _ _ _ _ _ _ _ _ _ _ _ _ _ _ _ _ _ X => so_iload (k := 15) X (show decode code 180 = .ok (.iload 15, 2) from by decide +kernel), ?_⟩
  refine List.forall_mem_cons.mpr ⟨fun _ _ _ _ _ _ _ _ _ _ _ _ _ _ _ _ _ _ X => so_iconst (n := 1) X (show decode code 182 = .ok (.iconst 1, 1) from by decide +kernel), ?_⟩
  refine List.forall_mem_cons.mpr ⟨fun _ _ _ _ _ _ _ _ _ _ _ _ _ _ _ _ _ _ X => so_iadd X (show decode code 183 = .ok (.iadd, 1) from by decide +kernel), ?_⟩
  refine List.forall_mem_cons.mpr ⟨fun _ _ _ _ _ _ _ _ _ _ _ _ _ _ _ _ _ _ X => so_icmp_ne (off := 7) (tgt := 191) X (show decode code 184 = .ok (.if_icmp .ne 7, 3) from by decide +kernel) (by decide), ?_⟩
  refine List.forall_mem_cons.mpr ⟨fun _ _ _ _ _ _ _ _ _ _ _ _ _ _ _ _ _ _ X => so_iconst (n := 1) X (show decode code 187 = .ok (.iconst 1, 1) from by decide +kernel), ?_⟩
  refine List.forall_mem_cons.mpr ⟨fun _ _ _ _ _ _ _ _ _ _ _ _ _ _ _ _ _ _ X => so_goto (off := 4) (tgt := 192) X (show decode code 188 = .ok (.goto 4, 3) from by decide +kernel) (by decide), ?_⟩
  refine List.forall_mem_cons.mpr ⟨fun _ _ _ _ _ _ _ _ _ _ _ _ _ _ _ _ _ _ X => so_iconst (n := 0) X (show decode code 191 = .ok (.iconst 0, 1) from by decide +kernel), ?_⟩
  refine List.forall_mem_cons.mpr ⟨fun _ _ _ _ _ _ _ _ _ _ _ _ _ _ _ _ _ _ X => so_istore (k := 9) X (show decode code 192 = .ok (.istore 9, 2) from by decide +kernel), ?_⟩
  refine List.forall_mem_cons.mpr ⟨fun _ _ _ _ _ _ _ _ _ _ _ _ _ _ _ _ _ _ X => so_iinc (k := 15) (n := 1) X (show decode code 194 = .ok (.iinc 15 1, 3) from by decide +kernel), ?_⟩
  refine List.forall_mem_cons.mpr ⟨fun _ _ _ _ _ _ _ _ _ _ _ _ _ _ _ _ _ _ X => so_goto (off := -47) (tgt := 150) X (show decode code 197 = .ok (.goto (-47), 3) from by decide +kernel) (by decide), ?_⟩
  refine List.forall_mem_cons.mpr ⟨fun _ _ _ _ _ _ _ _ _ _ _ _ _ _ _ _ _ _ X => so_iconst (n := 1) X (show decode code 200 = .ok (.iconst 1, 1) from by decide +kernel), ?_⟩
  refine List.forall_mem_cons.mpr ⟨fun _ _ _ _ _ _ _ _ _ _ _ _ _ _ _ _ _ _ X => so_istore (k := 7) X (show decode code 201 = .ok (.istore 7, 2) from by decide +kernel), ?_⟩
  refine List.forall_mem_cons.mpr ⟨fun _ _ _ _ _ _ _ _ _ _ _ _ _ _ _ _ _ _ X => so_iload (k := 13) X (show decode code 203 = .ok (.iload 13, 2) from by decide +kernel), ?_⟩
  refine List.forall_mem_cons.mpr ⟨fun _ _ _ _ _ _ _ _ _ _ _ _ _ _ _ _ _ _ X => so_bipush (n := 14) X (by decide +kernel) (show decode code 205 = .ok (.bipush 14, 2) from by decide +kernel), ?_⟩
  refine List.forall_mem_cons.mpr ⟨fun _ _ _ _ _ _ _ _ _ _ _ _ _ _ _ _ _ _ X => so_icmp_ge (off := 82) (tgt := 289) X (show decode code 207 = .ok (.if_icmp .ge 82, 3) from by decide +kernel) (by decide), ?_⟩
  refine List.forall_mem_cons.mpr ⟨fun _ _ _ _ _ _ _ _ _ _ _ _ _ _ _ _ _ _ X => so_aload_n (k := 1) X (show decode code 210 = .ok (.aload_n 1, 1) from by decide +kernel), ?_⟩
  refine List.forall_mem_cons.mpr ⟨fun _ _ _ _ _ _ _ _ _ _ _ _ _ _ _ _ _ _ X => so_iconst (n := 1) X (show decode code 211 = .ok (.iconst 1, 1) from by decide +kernel), ?_⟩
  refine List.forall_mem_cons.mpr ⟨fun _ _ _ _ _ _ _ _ _ _ _ _ _ _ _ _ _ _ X => so_iload (k := 12) X (show decode code 212 = .ok (.iload 12, 2) from by decide +kernel), ?_⟩
  refine List.forall_mem_cons.mpr ⟨fun _ _ _ _ _ _ _ _ _ _ _ _ _ _ _ _ _ _ X => so_bipush (n := 10) X (by decide +kernel) (show decode code 214 = .ok (.bipush 10, 2) from by decide +kernel), ?_⟩
  refine List.forall_mem_cons.mpr ⟨fun _ _ _ _ _ _ _ _ _ _ _ _ _ _ _ _ _ _ X => so_ishr X (show decode code 216 = .ok (.ishr, 1) from by decide +kernel), ?_⟩
  refine List.forall_mem_cons.mpr ⟨fun _ _ _ _ _ _ _ _ _ _ _ _ _ _ _ _ _ _ X => so_iconst (n := 5) X (show decode code 217 = .ok (.iconst 5, 1) from by decide +kernel), ?_⟩
  refine List.forall_mem_cons.mpr ⟨fun _ _ _ _ _ _ _ _ _ _ _ _ _ _ _ _ _ _ X => so_irem X (show decode code 218 = .ok (.irem, 1) from by decide +kernel), ?_⟩
  refine List.forall_mem_cons.mpr ⟨fun _ _ _ _ _ _ _ _ _ _ _ _ _ _ _ _ _ _ X => so_iconst (n := 0) X (show decode code 219 = .ok (.iconst 0, 1) from by decide +kernel), ?_⟩
  refine List.forall_mem_cons.mpr ⟨fun _ _ _ _ _ _ _ _ _ _ _ _ _ _ _ _ _ _ X => so_callSW (i := 92) (n := 4) X rfl wq_476 wq_477 wq_18 wd_92 wc_92 (show decode code 220 = .ok (.invokestatic 70, 3) from by decide +kernel), ?_⟩
  refine List.forall_mem_cons.mpr ⟨fun _ _ _ _ _ _ _ _ _ _ _ _ _ _ _ _ _ _ X => so_istore (k := 14) X (show decode code 223 = .ok (.istore 14, 2) from by decide +kernel), ?_⟩
  refine List.forall_mem_cons.mpr ⟨fun _ _ _ _ _ _ _ _ _ _ _ _ _ _ _ _ _ _ X => so_iload (k := 9) X (show decode code 225 = .ok (.iload 9, 2) from by decide +kernel), ?_⟩
  refine List.forall_mem_cons.mpr ⟨fun _ _ _ _ _ _ _ _ _ _ _ _ _ _ _ _ _ _ X => so_if_eq (off := 29) (tgt := 256) X (show decode code 227 = .ok (.ifCond .eq 29, 3) from by decide +kernel) (by decide), ?_⟩
  refine List.forall_mem_cons.mpr ⟨fun _ _ _ _ _ _ _ _ _ _ _ _ _ _ _ _ _ _ X => so_iload (k := 14) X (show decode code 230 = .ok (.iload 14, 2) from by decide +kernel), ?_⟩
  refine List.forall_mem_cons.mpr ⟨fun _ _ _ _ _ _ _ _ _ _ _ _ _ _ _ _ _ _ X => so_iload (k := 6) X (show decode code 232 = .ok (.iload 6, 2) from by decide +kernel), ?_⟩
  refine List.forall_mem_cons.mpr ⟨fun _ _ _ _ _ _ _ _ _ _ _ _ _ _ _ _ _ _ X => so_bipush (n := 6) X (by decide +kernel) (show decode code 234 = .ok (.bipush 6, 2) from by decide +kernel), ?_⟩
  refine List.forall_mem_cons.mpr ⟨fun _ _ _ _ _ _ _ _ _ _ _ _ _ _ _ _ _ _ X => so_icmp_ne (off := 9) (tgt := 245) X (show decode code 236 = .ok (.if_icmp .ne 9, 3) from by decide +kernel) (by decide), ?_⟩
  refine List.forall_mem_cons.mpr ⟨fun _ _ _ _ _ _ _ _ _ _ _ _ _ _ _ _ _ _ X => so_sipush (n := (-1013)) X (by decide +kernel) (show decode code 239 = .ok (.sipush (-1013), 3) from by decide +kernel), ?_⟩
  refine List.forall_mem_cons.mpr ⟨fun _ _ _ _ _ _ _ _ _ _ _ _ _ _ _ _ _ _ X => so_goto (off := 7) (tgt := 249) X (show decode code 242 = .ok (.goto 7, 3) from by decide +kernel) (by decide), ?_⟩
  refine List.forall_mem_cons.mpr ⟨fun _ _ _ _ _ _ _ _ _ _ _ _ _ _ _ _ _ _ X => so_iload (k := 6) X (show decode code 245 = .ok (.iload 6, 2) from by decide +kernel), ?_⟩
  refine List.forall_mem_cons.mpr ⟨fun _ _ _ _ _ _ _ _ _ _ _ _ _ _ _ _ _ _ X => so_iconst (n := 1) X (show decode code 247 = .ok (.iconst 1, 1) from by decide +kernel), ?_⟩
  refine List.forall_mem_cons.mpr ⟨fun _ _ _ _ _ _ _ _ _ _ _ _ _ _ _ _ _ _ X => so_iadd X (show decode code 248 = .ok (.iadd, 1) from by decide +kernel), ?_⟩
  refine List.forall_mem_cons.mpr ⟨fun _ _ _ _ _ _ _ _ _ _ _ _ _ _ _ _ _ _ X => so_icmp_ne (off := 7) (tgt := 256) X (show decode code 249 = .ok (.if_icmp .ne 7, 3) from by decide +kernel) (by decide), ?_⟩
  refine List.forall_mem_cons.mpr ⟨fun _ _ _ _ _ _ _ _ _ _ _ _ _ _ _ _ _ _ X => so_iconst (n := 1) X (show decode code 252 = .ok (.iconst 1, 1) from by decide +kernel), ?_⟩
  refine List.forall_mem_cons.mpr ⟨fun _ _ _ _ _ _ _ _ _ _ _ _ _ _ _ _ _ _ X => so_goto (off := 4) (tgt := 257) X (show decode code 253 = .ok (.goto 4, 3) from by decide +kernel) (by decide), ?_⟩
  refine List.forall_mem_cons.mpr ⟨fun _ _ _ _ _ _ _ _ _ _ _ _ _ _ _ _ _ _ X => so_iconst (n := 0) X (show decode code 256 = .ok (.iconst 0, 1) from by decide +kernel), ?_⟩
  refine List.forall_mem_cons.mpr ⟨fun _ _ _ _ _ _ _ _ _ _ _ _ _ _ _ _ _ _ X => so_istore (k := 9) X (show decode code 257 = .ok (.istore 9, 2) from by decide +kernel), ?_⟩
  refine List.forall_mem_cons.mpr ⟨fun _ _ _ _ _ _ _ _ _ _ _ _ _ _ _ _ _ _ X => so_iload (k := 6) X (show decode code 259 = .ok (.iload 6, 2) from by decide +kernel), ?_⟩
  refine List.forall_mem_cons.mpr ⟨fun _ _ _ _ _ _ _ _ _ _ _ _ _ _ _ _ _ _ X => so_iload (k := 14) X (show decode code 261 = .ok (.iload 14, 2) from by decide +kernel), ?_⟩
  refine List.forall_mem_cons.mpr ⟨fun _ _ _ _ _ _ _ _ _ _ _ _ _ _ _ _ _ _ X => so_if_le (off := 7) (tgt := 270) X (show decode code 263 = .ok (.ifCond .le 7, 3) from by decide +kernel) (by decide), ?_⟩
  refine List.forall_mem_cons.mpr ⟨fun _ _ _ _ _ _ _ _ _ _ _ _ _ _ _ _ _ _ X => so_iconst (n := 1) X (show decode code 266 = .ok (.iconst 1, 1) from by decide +kernel), ?_⟩
  refine List.forall_mem_cons.mpr ⟨fun _ _ _ _ _ _ _ _ _ _ _ _ _ _ _ _ _ _ X => so_goto (off := 4) (tgt := 271) X (show decode code 267 = .ok (.goto 4, 3) from by decide +kernel) (by decide), ?_⟩
  refine List.forall_mem_cons.mpr ⟨fun _ _ _ _ _ _ _ _ _ _ _ _ _ _ _ _ _ _ X => so_iconst (n := 0) X (show decode code 270 = .ok (.iconst 0, 1) from by decide +kernel), ?_⟩
  refine List.forall_mem_cons.mpr ⟨fun _ _ _ _ _ _ _ _ _ _ _ _ _ _ _ _ _ _ X => so_iadd X (show decode code 271 = .ok (.iadd, 1) from by decide +kernel), ?_⟩
  refine List.forall_mem_cons.mpr ⟨fun _ _ _ _ _ _ _ _ _ _ _ _ _ _ _ _ _ _ X => so_istore (k := 6) X (show decode code 272 = .ok (.istore 6, 2) from by decide +kernel), ?_⟩
  refine List.forall_mem_cons.mpr ⟨fun _ _ _ _ _ _ _ _ _ _ _ _ _ _ _ _ _ _ X => so_iload (k := 14) X (show decode code 274 = .ok (.iload 14, 2) from by decide +kernel), ?_⟩
  refine List.forall_mem_cons.mpr ⟨fun _ _ _ _ _ _ _ _ _ _ _ _ _ _ _ _ _ _ X => so_if_ge (off := 7) (tgt := 283) X (show decode code 276 = .ok (.ifCond .ge 7, 3) from by decide +kernel) (by decide), ?_⟩
  refine List.forall_mem_cons.mpr ⟨fun _ _ _ _ _ _ _ _ _ _ _ _ _ _ _ _ _ _ X => so_iconst (n := 1) X (show decode code 279 = .ok (.iconst 1, 1) from by decide +kernel), ?_⟩
  refine List.forall_mem_cons.mpr ⟨fun _ _ _ _ _ _ _ _ _ _ _ _ _ _ _ _ _ _ X => so_goto (off := 4) (tgt := 284) X (show decode code 280 = .ok (.goto 4, 3) from by decide +kernel) (by decide), ?_⟩
  refine List.forall_mem_cons.mpr ⟨fun _ _ _ _ _ _ _ _ _ _ _ _ _ _ _ _ _ _ X => so_iconst (n := 0) X (show decode code 283 = .ok (.iconst 0, 1) from by decide +kernel), ?_⟩
  refine List.forall_mem_cons.mpr ⟨fun _ _ _ _ _ _ _ _ _ _ _ _ _ _ _ _ _ _ X => so_istore (k := 7) X (show decode code 284 = .ok (.istore 7, 2) from by decide +kernel), ?_⟩
  refine List.forall_mem_cons.mpr ⟨fun _ _ _ _ _ _ _ _ _ _ _ _ _ _ _ _ _ _ X => so_goto (off := 985) (tgt := 1271) X (show decode code 286 = .ok (.goto 985, 3) from by decide +kernel) (by decide), ?_⟩
  refine List.forall_mem_cons.mpr ⟨fun _ _ _ _ _ _ _ _ _ _ _ _ _ _ _ _ _ _ X => so_iload (k := 13) X (show decode code 289 = .ok (.iload 13, 2) from by decide +kernel), ?_⟩
  refine List.forall_mem_cons.mpr ⟨fun _ _ _ _ _ _ _ _ _ _ _ _ _ _ _ _ _ _ X => so_bipush (n := 18) X (by decide +kernel) (show decode code 291 = .ok (.bipush 18, 2) from by decide +kernel), ?_⟩
  refine List.forall_mem_cons.mpr ⟨fun _ _ _ _ _ _ _ _ _ _ _ _ _ _ _ _ _ _ X => so_icmp_ge (off := 80) (tgt := 373) X (show decode code 293 = .ok (.if_icmp .ge 80, 3) from by decide +kernel) (by decide), ?_⟩
  refine List.forall_mem_cons.mpr ⟨fun _ _ _ _ _ _ _ _ _ _ _ _ _ _ _ _ _ _ X => so_aload_n (k := 1) X (show decode code 296 = .ok (.aload_n 1, 1) from by decide +kernel), ?_⟩
  refine List.forall_mem_cons.mpr ⟨fun _ _ _ _ _ _ _ _ _ _ _ _ _ _ _ _ _ _ X => so_iconst (n := 2) X (show decode code 297 = .ok (.iconst 2, 1) from by decide +kernel), ?_⟩
  refine List.forall_mem_cons.mpr ⟨fun _ _ _ _ _ _ _ _ _ _ _ _ _ _ _ _ _ _ X => so_iconst (n := 0) X (show decode code 298 = .ok (.iconst 0, 1) from by decide +kernel), ?_⟩
  refine List.forall_mem_cons.mpr ⟨fun _ _ _ _ _ _ _ _ _ _ _ _ _ _ _ _ _ _ X => so_iconst (n := 0) X (show decode code 299 = .ok (.iconst 0, 1) from by decide +kernel), ?_⟩
  refine List.forall_mem_cons.mpr ⟨fun _ _ _ _ _ _ _ _ _ _ _ _ _ _ _ _ _ _ X => so_callSW (i := 92) (n := 4) X rfl wq_476 wq_477 wq_18 wd_92 wc_92 (show decode code 300 = .ok (.invokestatic 70, 3) from by decide +kernel), ?_⟩
  refine List.forall_mem_cons.mpr ⟨fun _ _ _ _ _ _ _ _ _ _ _ _ _ _ _ _ _ _ X => so_istore (k := 14) X (show decode code 303 = .ok (.istore 14, 2) from by decide +kernel), ?_⟩
  refine List.forall_mem_cons.mpr ⟨fun _ _ _ _ _ _ _ _ _ _ _ _ _ _ _ _ _ _ X => so_iload (k := 9) X (show decode code 305 = .ok (.iload 9, 2) from by decide +kernel), ?_⟩
  refine List.forall_mem_cons.mpr ⟨fun _ _ _ _ _ _ _ _ _ _ _ _ _ _ _ _ _ _ X => so_if_eq (off := 32) (tgt := 339) X (show decode code 307 = .ok (.ifCond .eq 32, 3) from by decide +kernel) (by decide), ?_⟩
  refine List.forall_mem_cons.mpr ⟨fun _ _ _ _ _ _ _ _ _ _ _ _ _ _ _ _ _ _ X => so_iload (k := 14) X (show decode code 310 = .ok (.iload 14, 2) from by decide +kernel), ?_⟩
  refine List.forall_mem_cons.mpr ⟨fun _ _ _ _ _ _ _ _ _ _ _ _ _ _ _ _ _ _ X => so_iload (k := 6) X (show decode code 312 = .ok (.iload 6, 2) from by decide +kernel), ?_⟩
  refine List.forall_mem_cons.mpr ⟨fun _ _ _ _ _ _ _ _ _ _ _ _ _ _ _ _ _ _ X => so_if_eq (off := 10) (tgt := 324) X (show decode code 314 = .ok (.ifCond .eq 10, 3) from by decide +kernel) (by decide), ?_⟩
  refine List.forall_mem_cons.mpr ⟨fun _ _ _ _ _ _ _ _ _ _ _ _ _ _ _ _ _ _ X => so_iload (k := 5) X (show decode code 317 = .ok (.iload 5, 2) from by decide +kernel), ?_⟩
  refine List.forall_mem_cons.mpr ⟨fun _ _ _ _ _ _ _ _ _ _ _ _ _ _ _ _ _ _ X => so_bipush (n := 20) X (by decide +kernel) (show decode code 319 = .ok (.bipush 20, 2) from by decide +kernel), ?_⟩
  refine List.forall_mem_cons.mpr ⟨fun _ _ _ _ _ _ _ _ _ _ _ _ _ _ _ _ _ _ X => so_icmp_ne (off := 9) (tgt := 330) X (show decode code 321 = .ok (.if_icmp .ne 9, 3) from by decide +kernel) (by decide), ?_⟩
  refine List.forall_mem_cons.mpr ⟨fun _ _ _ _ _ _ _ _ _ _ _ _ _ _ _ _ _ _ X => so_sipush (n := (-1013)) X (by decide +kernel) (show decode code 324 = .ok (.sipush (-1013), 3) from by decide +kernel), ?_⟩
  refine List.forall_mem_cons.mpr ⟨fun _ _ _ _ _ _ _ _ _ _ _ _ _ _ _ _ _ _ X => so_goto (off := 5) (tgt := 332) X (show decode code 327 = .ok (.goto 5, 3) from by decide +kernel) (by decide), ?_⟩
  refine List.forall_mem_cons.mpr ⟨fun _ _ _ _ _ _ _ _ _ _ _ _ _ _ _ _ _ _ X => so_iload (k := 5) X (show decode code 330 = .ok (.iload 5, 2) from by decide +kernel), ?_⟩
  refine List.forall_mem_cons.mpr ⟨fun _ _ _ _ _ _ _ _ _ _ _ _ _ _ _ _ _ _ X => so_icmp_ne (off := 7) (tgt := 339) X (show decode code 332 = .ok (.if_icmp .ne 7, 3) from by decide +kernel) (by decide), ?_⟩
  refine List.forall_mem_cons.mpr ⟨fun _ _ _ _ _ _ _ _ _ _ _ _ _ _ _ _ _ _ X => so_iconst (n := 1) X (show decode code 335 = .ok (.iconst 1, 1) from by decide +kernel), ?_⟩
  refine List.forall_mem_cons.mpr ⟨fun _ _ _ _ _ _ _ _ _ _ _ _ _ _ _ _ _ _ X => so_goto (off := 4) (tgt := 340) X (show decode code 336 = .ok (.goto 4, 3) from by decide +kernel) (by decide), ?_⟩
  refine List.forall_mem_cons.mpr ⟨fun _ _ _ _ _ _ _ _ _ _ _ _ _ _ _ _ _ _ X => so_iconst (n := 0) X (show decode code 339 = .ok (.iconst 0, 1) from by decide +kernel), ?_⟩
  refine List.forall_mem_cons.mpr ⟨fun _ _ _ _ _ _ _ _ _ _ _ _ _ _ _ _ _ _ X => so_istore (k := 9) X (show decode code 340 = .ok (.istore 9, 2) from by decide +kernel), ?_⟩
  refine List.forall_mem_cons.mpr ⟨fun _ _ _ _ _ _ _ _ _ _ _ _ _ _ _ _ _ _ X => so_iload (k := 5) X (show decode code 342 = .ok (.iload 5, 2) from by decide +kernel), ?_⟩
  refine List.forall_mem_cons.mpr ⟨fun _ _ _ _ _ _ _ _ _ _ _ _ _ _ _ _ _ _ X => so_iload (k := 14) X (show decode code 344 = .ok (.iload 14, 2) from by decide +kernel), ?_⟩
  refine List.forall_mem_cons.mpr ⟨fun _ _ _ _ _ _ _ _ _ _ _ _ _ _ _ _ _ _ X => so_if_lt (off := 7) (tgt := 353) X (show decode code 346 = .ok (.ifCond .lt 7, 3) from by decide +kernel) (by decide), ?_⟩
  refine List.forall_mem_cons.mpr ⟨fun _ _ _ _ _ _ _ _ _ _ _ _ _ _ _ _ _ _ X => so_iconst (n := 1) X (show decode code 349 = .ok (.iconst 1, 1) from by decide +kernel), ?_⟩
  refine List.forall_mem_cons.mpr ⟨fun _ _ _ _ _ _ _ _ _ _ _ _ _ _ _ _ _ _ X => so_goto (off := 4) (tgt := 354) X (show decode code 350 = .ok (.goto 4, 3) from by decide +kernel) (by decide), ?_⟩
  refine List.forall_mem_cons.mpr ⟨fun _ _ _ _ _ _ _ _ _ _ _ _ _ _ _ _ _ _ X => so_iconst (n := 0) X (show decode code 353 = .ok (.iconst 0, 1) from by decide +kernel), ?_⟩
  refine List.forall_mem_cons.mpr ⟨fun _ _ _ _ _ _ _ _ _ _ _ _ _ _ _ _ _ _ X => so_iadd X (show decode code 354 = .ok (.iadd, 1) from by decide +kernel), ?_⟩
  refine List.forall_mem_cons.mpr ⟨fun _ _ _ _ _ _ _ _ _ _ _ _ _ _ _ _ _ _ X => so_istore (k := 5) X (show decode code 355 = .ok (.istore 5, 2) from by decide +kernel), ?_⟩
  refine List.forall_mem_cons.mpr ⟨fun _ _ _ _ _ _ _ _ _ _ _ _ _ _ _ _ _ _ X => so_iload (k := 14) X (show decode code 357 = .ok (.iload 14, 2) from by decide +kernel), ?_⟩
  refine List.forall_mem_cons.mpr ⟨fun _ _ _ _ _ _ _ _ _ _ _ _ _ _ _ _ _ _ X => so_if_lt (off := 7) (tgt := 366) X (show decode code 359 = .ok (.ifCond .lt 7, 3) from by decide +kernel) (by decide), ?_⟩
  refine List.forall_mem_cons.mpr ⟨fun _ _ _ _ _ _ _ _ _ _ _ _ _ _ _ _ _ _ X => so_iconst (n := 0) X (show decode code 362 = .ok (.iconst 0, 1) from by decide +kernel), ?_⟩
  refine List.forall_mem_cons.mpr ⟨fun _ _ _ _ _ _ _ _ _ _ _ _ _ _ _ _ _ _ X => so_goto (off := 5) (tgt := 368) X (show decode code 363 = .ok (.goto 5, 3) from by decide +kernel) (by decide), ?_⟩
  refine List.forall_mem_cons.mpr ⟨fun _ _ _ _ _ _ _ _ _ _ _ _ _ _ _ _ _ _ X => so_iload (k := 6) X (show decode code 366 = .ok (.iload 6, 2) from by decide +kernel), ?_⟩
  refine List.forall_mem_cons.mpr ⟨fun _ _ _ _ _ _ _ _ _ _ _ _ _ _ _ _ _ _ X => so_istore (k := 6) X (show decode code 368 = .ok (.istore 6, 2) from by decide +kernel), ?_⟩
  refine List.forall_mem_cons.mpr ⟨fun _ _ _ _ _ _ _ _ _ _ _ _ _ _ _ _ _ _ X => so_goto (off := 901) (tgt := 1271) X (show decode code 370 = .ok (.goto 901, 3) from by decide +kernel) (by decide), ?_⟩
  refine List.forall_mem_cons.mpr ⟨fun _ _ _ _ _ _ _ _ _ _ _ _ _ _ _ _ _ _ X => so_iload (k := 13) X (show decode code 373 = .ok (.iload 13, 2) from by decide +kernel), ?_⟩
  refine List.forall_mem_cons.mpr ⟨fun _ _ _ _ _ _ _ _ _ _ _ _ _ _ _ _ _ _ X => so_bipush (n := 22) X (by decide +kernel) (show decode code 375 = .ok (.bipush 22, 2) from by decide +kernel), ?_⟩
  refine List.forall_mem_cons.mpr ⟨fun _ _ _ _ _ _ _ _ _ _ _ _ _ _ _ _ _ _ X => so_icmp_ge (off := 128) (tgt := 505) X (show decode code 377 = .ok (.if_icmp .ge 128, 3) from by decide +kernel) (by decide), ?_⟩
  refine List.forall_mem_cons.mpr ⟨fun _ _ _ _ _ _ _ _ _ _ _ _ _ _ _ _ _ _ X => so_aload_n (k := 1) X (show decode code 380 = .ok (.aload_n 1, 1) from by decide +kernel), ?_⟩
  refine List.forall_mem_cons.mpr ⟨fun _ _ _ _ _ _ _ _ _ _ _ _ _ _ _ _ _ _ X => so_iconst (n := 4) X (show decode code 381 = .ok (.iconst 4, 1) from by decide +kernel), ?_⟩
  refine List.forall_mem_cons.mpr ⟨fun _ _ _ _ _ _ _ _ _ _ _ _ _ _ _ _ _ _ X => so_iconst (n := 0) X (show decode code 382 = .ok (.iconst 0, 1) from by decide +kernel), ?_⟩
  refine List.forall_mem_cons.mpr ⟨fun _ _ _ _ _ _ _ _ _ _ _ _ _ _ _ _ _ _ X => so_iconst (n := 0) X (show decode code 383 = .ok (.iconst 0, 1) from by decide +kernel), ?_⟩
  refine List.forall_mem_cons.mpr ⟨fun _ _ _ _ _ _ _ _ _ _ _ _ _ _ _ _ _ _ X => so_callSW (i := 92) (n := 4) X rfl wq_476 wq_477 wq_18 wd_92 wc_92 (show decode code 384 = .ok (.invokestatic 70, 3) from by decide +kernel), ?_⟩
  refine List.forall_mem_cons.mpr ⟨fun _ _ _ _ _ _ _ _ _ _ _ _ _ _ _ _ _ _ X => so_istore (k := 14) X (show decode code 387 = .ok (.istore 14, 2) from by decide +kernel), ?_⟩
  refine List.forall_mem_cons.mpr ⟨fun _ _ _ _ _ _ _ _ _ _ _ _ _ _ _ _ _ _ X => so_iload (k := 9) X (show decode code 389 = .ok (.iload 9, 2) from by decide +kernel), ?_⟩
  refine List.forall_mem_cons.mpr ⟨fun _ _ _ _ _ _ _ _ _ _ _ _ _ _ _ _ _ _ X => so_if_eq (off := 28) (tgt := 419) X (show decode code 391 = .ok (.ifCond .eq 28, 3) from by decide +kernel) (by decide), ?_⟩
  refine List.forall_mem_cons.mpr ⟨fun _ _ _ _ _ _ _ _ _ _ _ _ _ _ _ _ _ _ X => so_iload (k := 14) X (show decode code 394 = .ok (.iload 14, 2) from by decide +kernel), ?_⟩
  refine List.forall_mem_cons.mpr ⟨fun _ _ _ _ _ _ _ _ _ _ _ _ _ _ _ _ _ _ X => so_iload (k := 4) X (show decode code 396 = .ok (.iload 4, 2) from by decide +kernel), ?_⟩
  refine List.forall_mem_cons.mpr ⟨fun _ _ _ _ _ _ _ _ _ _ _ _ _ _ _ _ _ _ X => so_iconst (n := 5) X (show decode code 398 = .ok (.iconst 5, 1) from by decide +kernel), ?_⟩
  refine List.forall_mem_cons.mpr ⟨fun _ _ _ _ _ _ _ _ _ _ _ _ _ _ _ _ _ _ X => so_icmp_ne (off := 9) (tgt := 408) X (show decode code 399 = .ok (.if_icmp .ne 9, 3) from by decide +kernel) (by decide), ?_⟩
  refine List.forall_mem_cons.mpr ⟨fun _ _ _ _ _ _ _ _ _ _ _ _ _ _ _ _ _ _ X => so_sipush (n := (-1013)) X (by decide +kernel) (show decode code 402 = .ok (.sipush (-1013), 3) from by decide +kernel), ?_⟩
  refine List.forall_mem_cons.mpr ⟨fun _ _ _ _ _ _ _ _ _ _ _ _ _ _ _ _ _ _ X => so_goto (off := 7) (tgt := 412) X (show decode code 405 = .ok (.goto 7, 3) from by decide +kernel) (by decide), ?_⟩
  refine List.forall_mem_cons.mpr ⟨fun _ _ _ _ _ _ _ _ _ _ _ _ _ _ _ _ _ _ X => so_iload (k := 4) X (show decode code 408 = .ok (.iload 4, 2) from by decide +kernel), ?_⟩
  refine List.forall_mem_cons.mpr ⟨fun _ _ _ _ _ _ _ _ _ _ _ _ _ _ _ _ _ _ X => so_iconst (n := 1) X (show decode code 410 = .ok (.iconst 1, 1) from by decide +kernel), ?_⟩
  refine List.forall_mem_cons.mpr ⟨fun _ _ _ _ _ _ _ _ _ _ _ _ _ _ _ _ _ _ X => so_iadd X (show decode code 411 = .ok (.iadd, 1) from by decide +kernel), ?_⟩
  refine List.forall_mem_cons.mpr ⟨fun _ _ _ _ _ _ _ _ _ _ _ _ _ _ _ _ _ _ X => so_icmp_ne (off := 7) (tgt := 419) X (show decode code 412 = .ok (.if_icmp .ne 7, 3) from by decide +kernel) (by decide), ?_⟩
  refine List.forall_mem_cons.mpr ⟨fun _ _ _ _ _ _ _ _ _ _ _ _ _ _ _ _ _ _ X => so_iconst (n := 1) X (show decode code 415 = .ok (.iconst 1, 1) from by decide +kernel), ?_⟩
  refine List.forall_mem_cons.mpr ⟨fun _ _ _ _ _ _ _ _ _ _ _ _ _ _ _ _ _ _ X => so_goto (off := 4) (tgt := 420) X (show decode code 416 = .ok (.goto 4, 3) from by decide +kernel) (by decide), ?_⟩
  refine List.forall_mem_cons.mpr ⟨fun _ _ _ _ _ _ _ _ _ _ _ _ _ _ _ _ _ _ X => so_iconst (n := 0) X (show decode code 419 = .ok (.iconst 0, 1) from by decide +kernel), ?_⟩
  refine List.forall_mem_cons.mpr ⟨fun _ _ _ _ _ _ _ _ _ _ _ _ _ _ _ _ _ _ X => so_istore (k := 9) X (show decode code 420 = .ok (.istore 9, 2) from by decide +kernel), ?_⟩
  refine List.forall_mem_cons.mpr ⟨fun _ _ _ _ _ _ _ _ _ _ _ _ _ _ _ _ _ _ X => so_aload_n (k := 3) X (show decode code 422 = .ok (.aload_n 3, 1) from by decide +kernel), ?_⟩
  refine List.forall_mem_cons.mpr ⟨fun _ _ _ _ _ _ _ _ _ _ _ _ _ _ _ _ _ _ X => so_iload (k := 14) X (show decode code 423 = .ok (.iload 14, 2) from by decide +kernel), ?_⟩
  refine List.forall_mem_cons.mpr ⟨fun _ _ _ _ _ _ _ _ _ _ _ _ _ _ _ _ _ _ X => so_if_le (off := 8) (tgt := 433) X (show decode code 425 = .ok (.ifCond .le 8, 3) from by decide +kernel) (by decide), ?_⟩
  refine List.forall_mem_cons.mpr ⟨fun _ _ _ _ _ _ _ _ _ _ _ _ _ _ _ _ _ _ X => so_iload (k := 4) X (show decode code 428 = .ok (.iload 4, 2) from by decide +kernel), ?_⟩
  refine List.forall_mem_cons.mpr ⟨fun _ _ _ _ _ _ _ _ _ _ _ _ _ _ _ _ _ _ X => so_goto (off := 4) (tgt := 434) X (show decode code 430 = .ok (.goto 4, 3) from by decide +kernel) (by decide), ?_⟩
  refine List.forall_mem_cons.mpr ⟨fun _ _ _ _ _ _ _ _ _ _ _ _ _ _ _ _ _ _ X => so_iconst (n := 0) X (show decode code 433 = .ok (.iconst 0, 1) from by decide +kernel), ?_⟩
  refine List.forall_mem_cons.mpr ⟨fun _ _ _ _ _ _ _ _ _ _ _ _ _ _ _ _ _ _ X => so_iload (k := 14) X (show decode code 434 = .ok (.iload 14, 2) from by decide +kernel), ?_⟩
  refine List.forall_mem_cons.mpr ⟨fun _ _ _ _ _ _ _ _ _ _ _ _ _ _ _ _ _ _ X => so_if_le (off := 7) (tgt := 443) X (show decode code 436 = .ok (.ifCond .le 7, 3) from by decide +kernel) (by decide), ?_⟩
  refine List.forall_mem_cons.mpr ⟨fun _ _ _ _ _ _ _ _ _ _ _ _ _ _ _ _ _ _ X => so_iconst (n := (-1)) X (show decode code 439 = .ok (.iconst (-1), 1) from by decide +kernel), ?_⟩
  refine List.forall_mem_cons.mpr ⟨fun _ _ _ _ _ _ _ _ _ _ _ _ _ _ _ _ _ _ X => so_goto (off := 6) (tgt := 446) X (show decode code 440 = .ok (.goto 6, 3) from by decide +kernel) (by decide), ?_⟩
  refine List.forall_mem_cons.mpr ⟨fun _ _ _ _ _ _ _ _ _ _ _ _ _ _ _ _ _ _ X => so_aload_n (k := 3) X (show decode code 443 = .ok (.aload_n 3, 1) from by decide +kernel), ?_⟩
  refine List.forall_mem_cons.mpr ⟨fun _ _ _ _ _ _ _ _ _ _ _ _ _ _ _ _ _ _ X => so_iconst (n := 0) X (show decode code 444 = .ok (.iconst 0, 1) from by decide +kernel), ?_⟩
  refine List.forall_mem_cons.mpr ⟨fun _ _ _ _ _ _ _ _ _ _ _ _ _ _ _ _ _ _ X => so_iald X (show decode code 445 = .ok (.iaload, 1) from by decide +kernel), ?_⟩
  refine List.forall_mem_cons.mpr ⟨fun _ _ _ _ _ _ _ _ _ _ _ _ _ _ _ _ _ _ X => so_iast X (show decode code 446 = .ok (.iastore, 1) from by decide +kernel), ?_⟩
  refine List.forall_mem_cons.mpr ⟨fun _ _ _ _ _ _ _ _ _ _ _ _ _ _ _ _ _ _ X => so_iload (k := 4) X (show decode code 447 = .ok (.iload 4, 2) from by decide +kernel), ?_⟩
  refine List.forall_mem_cons.mpr ⟨fun _ _ _ _ _ _ _ _ _ _ _ _ _ _ _ _ _ _ X => so_iload (k := 14) X (show decode code 449 = .ok (.iload 14, 2) from by decide +kernel), ?_⟩
  refine List.forall_mem_cons.mpr ⟨fun _ _ _ _ _ _ _ _ _ _ _ _ _ _ _ _ _ _ X => so_if_le (off := 7) (tgt := 458) X (show decode code 451 = .ok (.ifCond .le 7, 3) from by decide +kernel) (by decide), ?_⟩
  refine List.forall_mem_cons.mpr ⟨fun _ _ _ _ _ _ _ _ _ _ _ _ _ _ _ _ _ _ X => so_iconst (n := 1) X (show decode code 454 = .ok (.iconst 1, 1) from by decide +kernel), ?_⟩
  refine List.forall_mem_cons.mpr ⟨fun _ _ _ _ _ _ _ _ _ _ _ _ _ _ _ _ _ _ X => so_goto (off := 4) (tgt := 459) X (show decode code 455 = .ok (.goto 4, 3) from by decide +kernel) (by decide), ?_⟩
  refine List.forall_mem_cons.mpr ⟨fun _ _ _ _ _ _ _ _ _ _ _ _ _ _ _ _ _ _ X => so_iconst (n := 0) X (show decode code 458 = .ok (.iconst 0, 1) from by decide +kernel), ?_⟩
  refine List.forall_mem_cons.mpr ⟨fun _ _ _ _ _ _ _ _ _ _ _ _ _ _ _ _ _ _ X => so_iadd X (show decode code 459 = .ok (.iadd, 1) from by decide +kernel), ?_⟩
  refine List.forall_mem_cons.mpr ⟨fun _ _ _ _ _ _ _ _ _ _ _ _ _ _ _ _ _ _ X => so_istore (k := 4) X (show decode code 460 = .ok (.istore 4, 2) from by decide +kernel), ?_⟩
  refine List.forall_mem_cons.mpr ⟨fun _ _ _ _ _ _ _ _ _ _ _ _ _ _ _ _ _ _ X => so_iload (k := 14) X (show decode code 462 = .ok (.iload 14, 2) from by decide +kernel), ?_⟩
  refine List.forall_mem_cons.mpr ⟨fun _ _ _ _ _ _ _ _ _ _ _ _ _ _ _ _ _ _ X => so_if_ge (off := 7) (tgt := 471) X (show decode code 464 = .ok (.ifCond .ge 7, 3) from by decide +kernel) (by decide), ?_⟩
  refine List.forall_mem_cons.mpr ⟨fun _ _ _ _ _ _ _ _ _ _ _ _ _ _ _ _ _ _ X => so_iconst (n := 1) X (show decode code 467 = .ok (.iconst 1, 1) from by decide +kernel), ?_⟩
  refine List.forall_mem_cons.mpr ⟨fun _ _ _ _ _ _ _ _ _ _ _ _ _ _ _ _ _ _ X => so_goto (off := 4) (tgt := 472) X (show decode code 468 = .ok (.goto 4, 3) from by decide +kernel) (by decide), ?_⟩
  refine List.forall_mem_cons.mpr ⟨fun _ _ _ _ _ _ _ _ _ _ _ _ _ _ _ _ _ _ X => so_iconst (n := 0) X (show decode code 471 = .ok (.iconst 0, 1) from by decide +kernel), ?_⟩
  refine List.forall_mem_cons.mpr ⟨fun _ _ _ _ _ _ _ _ _ _ _ _ _ _ _ _ _ _ X => so_istore (k := 7) X (show decode code 472 = .ok (.istore 7, 2) from by decide +kernel), ?_⟩
  refine List.forall_mem_cons.mpr ⟨fun _ _ _ _ _ _ _ _ _ _ _ _ _ _ _ _ _ _ X => so_iload (k := 14) X (show decode code 474 = .ok (.iload 14, 2) from by decide +kernel), ?_⟩
  refine List.forall_mem_cons.mpr ⟨fun _ _ _ _ _ _ _ _ _ _ _ _ _ _ _ _ _ _ X => so_if_ge (off := 26) (tgt := 502) X (show decode code 476 = .ok (.ifCond .ge 26, 3) from by decide +kernel) (by decide), ?_⟩
  refine List.forall_mem_cons.mpr ⟨fun _ _ _ _ _ _ _ _ _ _ _ _ _ _ _ _ _ _ X => so_iload (k := 9) X (show decode code 479 = .ok (.iload 9, 2) from by decide +kernel), ?_⟩
  refine List.forall_mem_cons.mpr ⟨fun _ _ _ _ _ _ _ _ _ _ _ _ _ _ _ _ _ _ X => so_if_eq (off := 15) (tgt := 496) X (show decode code 481 = .ok (.ifCond .eq 15, 3) from by decide +kernel) (by decide), ?_⟩
  refine List.forall_mem_cons.mpr ⟨fun _ _ _ _ _ _ _ _ _ _ _ _ _ _ _ _ _ _ X => so_aload_n (k := 1) X (show decode code 484 = .ok (.aload_n 1, 1) from by decide +kernel), ?_⟩
  refine List.forall_mem_cons.mpr ⟨fun _ _ _ _ _ _ _ _ _ _ _ _ _ _ _ _ _ _ X => so_callV (i := 67) (cn := 8) (n := 0) X rfl rfl rfl wq_232 wq_233 wq_234 wq_19 wd_67 wc_67 (show decode code 485 = .ok (.invokevirtual 79, 3) from by decide +kernel), ?_⟩
  refine List.forall_mem_cons.mpr ⟨fun _ _ _ _ _ _ _ _ _ _ _ _ _ _ _ _ _ _ X => so_iconst (n := 5) X (show decode code 488 = .ok (.iconst 5, 1) from by decide +kernel), ?_⟩
  refine List.forall_mem_cons.mpr ⟨fun _ _ _ _ _ _ _ _ _ _ _ _ _ _ _ _ _ _ X => so_icmp_ne (off := 7) (tgt := 496) X (show decode code 489 = .ok (.if_icmp .ne 7, 3) from by decide +kernel) (by decide), ?_⟩
  refine List.forall_mem_cons.mpr ⟨fun _ _ _ _ _ _ _ _ _ _ _ _ _ _ _ _ _ _ X => so_iconst (n := 1) X (show decode code 492 = .ok (.iconst 1, 1) from by decide +kernel), ?_⟩
  refine List.forall_mem_cons.mpr ⟨fun _ _ _ _ _ _ _ _ _ _ _ _ _ _ _ _ _ _ X => so_goto (off := 4) (tgt := 497) X (show decode code 493 = .ok (.goto 4, 3) from by decide +kernel) (by decide), ?_⟩
  refine List.forall_mem_cons.mpr ⟨fun _ _ _ _ _ _ _ _ _ _ _ _ _ _ _ _ _ _ X => so_iconst (n := 0) X (show decode code 496 = .ok (.iconst 0, 1) from by decide +kernel), ?_⟩
  refine List.forall_mem_cons.mpr ⟨fun _ _ _ _ _ _ _ _ _ _ _ _ _ _ _ _ _ _ X => so_istore (k := 9) X (show decode code 497 = .ok (.istore 9, 2) from by decide +kernel), ?_⟩
  refine List.forall_mem_cons.mpr ⟨fun _ _ _ _ _ _ _ _ _ _ _ _ _ _ _ _ _ _ X => so_iconst (n := 0) X (show decode code 499 = .ok (.iconst 0, 1) from by decide +kernel), ?_⟩
  refine List.forall_mem_cons.mpr ⟨fun _ _ _ _ _ _ _ _ _ _ _ _ _ _ _ _ _ _ X => so_istore (k := 4) X (show decode code 500 = .ok (.istore 4, 2) from by decide +kernel), ?_⟩
  refine List.forall_mem_cons.mpr ⟨fun _ _ _ _ _ _ _ _ _ _ _ _ _ _ _ _ _ _ X => so_goto (off := 769) (tgt := 1271) X (show decode code 502 = .ok (.goto 769, 3) from by decide +kernel) (by decide), ?_⟩
  refine List.forall_mem_cons.mpr ⟨fun _ _ _ _ _ _ _ _ _ _ _ _ _ _ _ _ _ _ X => so_iload (k := 13) X (show decode code 505 = .ok (.iload 13, 2) from by decide +kernel), ?_⟩
  refine List.forall_mem_cons.mpr ⟨fun _ _ _ _ _ _ _ _ _ _ _ _ _ _ _ _ _ _ X => so_bipush (n := 24) X (by decide +kernel) (show decode code 507 = .ok (.bipush 24, 2) from by decide +kernel), ?_⟩
  refine List.forall_mem_cons.mpr ⟨fun _ _ _ _ _ _ _ _ _ _ _ _ _ _ _ _ _ _ X => so_icmp_ge (off := 125) (tgt := 634) X (show decode code 509 = .ok (.if_icmp .ge 125, 3) from by decide +kernel) (by decide), ?_⟩
  refine List.forall_mem_cons.mpr ⟨fun _ _ _ _ _ _ _ _ _ _ _ _ _ _ _ _ _ _ X => so_iload (k := 12) X (show decode code 512 = .ok (.iload 12, 2) from by decide +kernel), ?_⟩
  refine List.forall_mem_cons.mpr ⟨fun _ _ _ _ _ _ _ _ _ _ _ _ _ _ _ _ _ _ X => so_iconst (n := 1) X (show decode code 514 = .ok (.iconst 1, 1) from by decide +kernel), ?_⟩
  refine List.forall_mem_cons.mpr ⟨fun _ _ _ _ _ _ _ _ _ _ _ _ _ _ _ _ _ _ X => so_iandm (y0 := 1) (M := 2) X (fun _ => m_1) (show decode code 515 = .ok (.iand, 1) from by decide +kernel), ?_⟩
  refine List.forall_mem_cons.mpr ⟨fun _ _ _ _ _ _ _ _ _ _ _ _ _ _ _ _ _ _ X => so_if_ne (off := 7) (tgt := 523) X (show decode code 516 = .ok (.ifCond .ne 7, 3) from by decide +kernel) (by decide), ?_⟩
  refine List.forall_mem_cons.mpr ⟨fun _ _ _ _ _ _ _ _ _ _ _ _ _ _ _ _ _ _ X => so_iconst (n := 1) X (show decode code 519 = .ok (.iconst 1, 1) from by decide +kernel), ?_⟩
  refine List.forall_mem_cons.mpr ⟨fun _ _ _ _ _ _ _ _ _ _ _ _ _ _ _ _ _ _ X => so_goto (off := 4) (tgt := 524) X (show decode code 520 = .ok (.goto 4, 3) from by decide +kernel) (by decide), ?_⟩
  refine List.forall_mem_cons.mpr ⟨fun _ _ _ _ _ _ _ _ _ _ _ _ _ _ _ _ _ _ X => so_iconst (n := 0) X (show decode code 523 = .ok (.iconst 0, 1) from by decide +kernel), ?_⟩
  refine List.forall_mem_cons.mpr ⟨fun _ _ _ _ _ _ _ _ _ _ _ _ _ _ _ _ _ _ X => so_istore (k := 14) X (show decode code 524 = .ok (.istore 14, 2) from by decide +kernel), ?_⟩
  refine List.forall_mem_cons.mpr ⟨fun _ _ _ _ _ _ _ _ _ _ _ _ _ _ _ _ _ _ X => so_iload (k := 5) X (show decode code 526 = .ok (.iload 5, 2) from by decide +kernel), ?_⟩
  refine List.forall_mem_cons.mpr ⟨fun _ _ _ _ _ _ _ _ _ _ _ _ _ _ _ _ _ _ X => so_if_ne (off := 7) (tgt := 535) X (show decode code 528 = .ok (.ifCond .ne 7, 3) from by decide +kernel) (by decide), ?_⟩
  refine List.forall_mem_cons.mpr ⟨fun _ _ _ _ _ _ _ _ _ _ _ _ _ _ _ _ _ _ X => so_iconst (n := 0) X (show decode code 531 = .ok (.iconst 0, 1) from by decide +kernel), ?_⟩
  refine List.forall_mem_cons.mpr ⟨fun _ _ _ _ _ _ _ _ _ _ _ _ _ _ _ _ _ _ X => so_goto (off := 25) (tgt := 557) X (show decode code 532 = .ok (.goto 25, 3) from by decide +kernel) (by decide), ?_⟩
  refine List.forall_mem_cons.mpr ⟨fun _ _ _ _ _ _ _ _ _ _ _ _ _ _ _ _ _ _ X => so_aload_n (k := 1) X (show decode code 535 = .ok (.aload_n 1, 1) from by decide +kernel), ?_⟩
  refine List.forall_mem_cons.mpr ⟨fun _ _ _ _ _ _ _ _ _ _ _ _ _ _ _ _ _ _ X => so_iconst (n := 3) X (show decode code 536 = .ok (.iconst 3, 1) from by decide +kernel), ?_⟩
  refine List.forall_mem_cons.mpr ⟨fun _ _ _ _ _ _ _ _ _ _ _ _ _ _ _ _ _ _ X => so_iload (k := 12) X (show decode code 537 = .ok (.iload 12, 2) from by decide +kernel), ?_⟩
  refine List.forall_mem_cons.mpr ⟨fun _ _ _ _ _ _ _ _ _ _ _ _ _ _ _ _ _ _ X => so_iconst (n := 1) X (show decode code 539 = .ok (.iconst 1, 1) from by decide +kernel), ?_⟩
  refine List.forall_mem_cons.mpr ⟨fun _ _ _ _ _ _ _ _ _ _ _ _ _ _ _ _ _ _ X => so_ishr X (show decode code 540 = .ok (.ishr, 1) from by decide +kernel), ?_⟩
  refine List.forall_mem_cons.mpr ⟨fun _ _ _ _ _ _ _ _ _ _ _ _ _ _ _ _ _ _ X => so_iload (k := 5) X (show decode code 541 = .ok (.iload 5, 2) from by decide +kernel), ?_⟩
  refine List.forall_mem_cons.mpr ⟨fun _ _ _ _ _ _ _ _ _ _ _ _ _ _ _ _ _ _ X => so_irem X (show decode code 543 = .ok (.irem, 1) from by decide +kernel), ?_⟩
  refine List.forall_mem_cons.mpr ⟨fun _ _ _ _ _ _ _ _ _ _ _ _ _ _ _ _ _ _ X => so_iload (k := 14) X (show decode code 544 = .ok (.iload 14, 2) from by decide +kernel), ?_⟩
  refine List.forall_mem_cons.mpr ⟨fun _ _ _ _ _ _ _ _ _ _ _ _ _ _ _ _ _ _ X => so_if_eq (off := 7) (tgt := 553) X (show decode code 546 = .ok (.ifCond .eq 7, 3) from by decide +kernel) (by decide), ?_⟩
  refine List.forall_mem_cons.mpr ⟨fun _ _ _ _ _ _ _ _ _ _ _ _ _ _ _ _ _ _ X => so_iconst (n := 1) X (show decode code 549 = .ok (.iconst 1, 1) from by decide +kernel), ?_⟩
  refine List.forall_mem_cons.mpr ⟨fun _ _ _ _ _ _ _ _ _ _ _ _ _ _ _ _ _ _ X => so_goto (off := 4) (tgt := 554) X (show decode code 550 = .ok (.goto 4, 3) from by decide +kernel) (by decide), ?_⟩
  refine List.forall_mem_cons.mpr ⟨fun _ _ _ _ _ _ _ _ _ _ _ _ _ _ _ _ _ _ X => so_iconst (n := 0) X (show decode code 553 = .ok (.iconst 0, 1) from by decide +kernel), ?_⟩
  refine List.forall_mem_cons.mpr ⟨fun _ _ _ _ _ _ _ _ _ _ _ _ _ _ _ _ _ _ X => so_callSW (i := 92) (n := 4) X rfl wq_476 wq_477 wq_18 wd_92 wc_92 (show decode code 554 = .ok (.invokestatic 70, 3) from by decide +kernel), ?_⟩
  refine List.forall_mem_cons.mpr ⟨fun _ _ _ _ _ _ _ _ _ _ _ _ _ _ _ _ _ _ X => so_istore (k := 15) X (show decode code 557 = .ok (.istore 15, 2) from by decide +kernel), ?_⟩
  refine List.forall_mem_cons.mpr ⟨fun _ _ _ _ _ _ _ _ _ _ _ _ _ _ _ _ _ _ X => so_iload (k := 9) X (show decode code 559 = .ok (.iload 9, 2) from by decide +kernel), ?_⟩
  refine List.forall_mem_cons.mpr ⟨fun _ _ _ _ _ _ _ _ _ _ _ _ _ _ _ _ _ _ X => so_if_eq (off := 67) (tgt := 628) X (show decode code 561 = .ok (.ifCond .eq 67, 3) from by decide +kernel) (by decide), ?_⟩
  refine List.forall_mem_cons.mpr ⟨fun _ _ _ _ _ _ _ _ _ _ _ _ _ _ _ _ _ _ X => so_iload (k := 15) X (show decode code 564 = .ok (.iload 15, 2) from by decide +kernel), ?_⟩
  refine List.forall_mem_cons.mpr ⟨fun _ _ _ _ _ _ _ _ _ _ _ _ _ _ _ _ _ _ X => so_if_eq (off := 9) (tgt := 575) X (show decode code 566 = .ok (.ifCond .eq 9, 3) from by decide +kernel) (by decide), ?_⟩
  refine List.forall_mem_cons.mpr ⟨fun _ _ _ _ _ _ _ _ _ _ _ _ _ _ _ _ _ _ X => so_iload (k := 15) X (show decode code 569 = .ok (.iload 15, 2) from by decide +kernel), ?_⟩
  refine List.forall_mem_cons.mpr ⟨fun _ _ _ _ _ _ _ _ _ _ _ _ _ _ _ _ _ _ X => so_iconst (n := 1) X (show decode code 571 = .ok (.iconst 1, 1) from by decide +kernel), ?_⟩
  refine List.forall_mem_cons.mpr ⟨fun _ _ _ _ _ _ _ _ _ _ _ _ _ _ _ _ _ _ X => so_icmp_ne (off := 56) (tgt := 628) X (show decode code 572 = .ok (.if_icmp .ne 56, 3) from by decide +kernel) (by decide), ?_⟩
  refine List.forall_mem_cons.mpr ⟨fun _ _ _ _ _ _ _ _ _ _ _ _ _ _ _ _ _ _ X => so_iload (k := 5) X (show decode code 575 = .ok (.iload 5, 2) from by decide +kernel), ?_⟩
  refine List.forall_mem_cons.mpr ⟨fun _ _ _ _ _ _ _ _ _ _ _ _ _ _ _ _ _ _ X => so_if_eq (off := 38) (tgt := 615) X (show decode code 577 = .ok (.ifCond .eq 38, 3) from by decide +kernel) (by decide), ?_⟩
  refine List.forall_mem_cons.mpr ⟨fun _ _ _ _ _ _ _ _ _ _ _ _ _ _ _ _ _ _ X => so_aload_n (k := 1) X (show decode code 580 = .ok (.aload_n 1, 1) from by decide +kernel), ?_⟩
  refine List.forall_mem_cons.mpr ⟨fun _ _ _ _ _ _ _ _ _ _ _ _ _ _ _ _ _ _ X => so_iconst (n := 3) X (show decode code 581 = .ok (.iconst 3, 1) from by decide +kernel), ?_⟩
  refine List.forall_mem_cons.mpr ⟨fun _ _ _ _ _ _ _ _ _ _ _ _ _ _ _ _ _ _ X => so_iload (k := 12) X (show decode code 582 = .ok (.iload 12, 2) from by decide +kernel), ?_⟩
  refine List.forall_mem_cons.mpr ⟨fun _ _ _ _ _ _ _ _ _ _ _ _ _ _ _ _ _ _ X => so_iconst (n := 1) X (show decode code 584 = .ok (.iconst 1, 1) from by decide +kernel), ?_⟩
  refine List.forall_mem_cons.mpr ⟨fun _ _ _ _ _ _ _ _ _ _ _ _ _ _ _ _ _ _ X => so_ishr X (show decode code 585 = .ok (.ishr, 1) from by decide +kernel), ?_⟩
  refine List.forall_mem_cons.mpr ⟨fun _ _ _ _ _ _ _ _ _ _ _ _ _ _ _ _ _ _ X => so_iload (k := 5) X (show decode code 586 = .ok (.iload 5, 2) from by decide +kernel), ?_⟩
  refine List.forall_mem_cons.mpr ⟨fun _ _ _ _ _ _ _ _ _ _ _ _ _ _ _ _ _ _ X => so_irem X (show decode code 588 = .ok (.irem, 1) from by decide +kernel), ?_⟩
  refine List.forall_mem_cons.mpr ⟨fun _ _ _ _ _ _ _ _ _ _ _ _ _ _ _ _ _ _ X => so_iload (k := 14) X (show decode code 589 = .ok (.iload 14, 2) from by decide +kernel), ?_⟩
  refine List.forall_mem_cons.mpr ⟨fun _ _ _ _ _ _ _ _ _ _ _ _ _ _ _ _ _ _ X => so_if_eq (off := 7) (tgt := 598) X (show decode code 591 = .ok (.ifCond .eq 7, 3) from by decide +kernel) (by decide), ?_⟩
  refine List.forall_mem_cons.mpr ⟨fun _ _ _ _ _ _ _ _ _ _ _ _ _ _ _ _ _ _ X => so_iconst (n := 1) X (show decode code 594 = .ok (.iconst 1, 1) from by decide +kernel), ?_⟩
  refine List.forall_mem_cons.mpr ⟨fun _ _ _ _ _ _ _ _ _ _ _ _ _ _ _ _ _ _ X => so_goto (off := 4) (tgt := 599) X (show decode code 595 = .ok (.goto 4, 3) from by decide +kernel) (by decide), ?_⟩
  refine List.forall_mem_cons.mpr ⟨fun _ _ _ _ _ _ _ _ _ _ _ _ _ _ _ _ _ _ X => so_iconst (n := 0) X (show decode code 598 = .ok (.iconst 0, 1) from by decide +kernel), ?_⟩
  refine List.forall_mem_cons.mpr ⟨fun _ _ _ _ _ _ _ _ _ _ _ _ _ _ _ _ _ _ X => so_callSW (i := 92) (n := 4) X rfl wq_476 wq_477 wq_18 wd_92 wc_92 (show decode code 599 = .ok (.invokestatic 70, 3) from by decide +kernel), ?_⟩
  refine List.forall_mem_cons.mpr ⟨fun _ _ _ _ _ _ _ _ _ _ _ _ _ _ _ _ _ _ X => so_iload (k := 14) X (show decode code 602 = .ok (.iload 14, 2) from by decide +kernel), ?_⟩
  refine List.forall_mem_cons.mpr ⟨fun _ _ _ _ _ _ _ _ _ _ _ _ _ _ _ _ _ _ X => so_if_eq (off := 7) (tgt := 611) X (show decode code 604 = .ok (.ifCond .eq 7, 3) from by decide +kernel) (by decide), ?_⟩
  refine List.forall_mem_cons.mpr ⟨fun _ _ _ _ _ _ _ _ _ _ _ _ _ _ _ _ _ _ X => so_iconst (n := 1) X (show decode code 607 = .ok (.iconst 1, 1) from by decide +kernel), ?_⟩
  refine List.forall_mem_cons.mpr ⟨fun _ _ _ _ _ _ _ _ _ _ _ _ _ _ _ _ _ _ X => so_goto (off := 4) (tgt := 612) X (show decode code 608 = .ok (.goto 4, 3) from by decide +kernel) (by decide), ?_⟩
  refine List.forall_mem_cons.mpr ⟨fun _ _ _ _ _ _ _ _ _ _ _ _ _ _ _ _ _ _ X => so_iconst (n := 0) X (show decode code 611 = .ok (.iconst 0, 1) from by decide +kernel), ?_⟩
  refine List.forall_mem_cons.mpr ⟨fun _ _ _ _ _ _ _ _ _ _ _ _ _ _ _ _ _ _ X => so_icmp_ne (off := 16) (tgt := 628) X (show decode code 612 = .ok (.if_icmp .ne 16, 3) from by decide +kernel) (by decide), ?_⟩
  refine List.forall_mem_cons.mpr ⟨fun _ _ _ _ _ _ _ _ _ _ _ _ _ _ _ _ _ _ X => so_aload_n (k := 1) X (show decode code 615 = .ok (.aload_n 1, 1) from by decide +kernel), ?_⟩
  refine List.forall_mem_cons.mpr ⟨fun _ _ _ _ _ _ _ _ _ _ _ _ _ _ _ _ _ _ X => so_callV (i := 77) (cn := 8) (n := 0) X rfl rfl rfl wq_468 wq_469 wq_470 wq_19 wd_77 wc_77 (show decode code 616 = .ok (.invokevirtual 82, 3) from by decide +kernel), ?_⟩
  refine List.forall_mem_cons.mpr ⟨fun _ _ _ _ _ _ _ _ _ _ _ _ _ _ _ _ _ _ X => so_iload (k := 5) X (show decode code 619 = .ok (.iload 5, 2) from by decide +kernel), ?_⟩
  refine List.forall_mem_cons.mpr ⟨fun _ _ _ _ _ _ _ _ _ _ _ _ _ _ _ _ _ _ X => so_icmp_gt (off := 7) (tgt := 628) X (show decode code 621 = .ok (.if_icmp .gt 7, 3) from by decide +kernel) (by decide), ?_⟩
  refine List.forall_mem_cons.mpr ⟨fun _ _ _ _ _ _ _ _ _ _ _ _ _ _ _ _ _ _ X => so_iconst (n := 1) X (show decode code 624 = .ok (.iconst 1, 1) from by decide +kernel), ?_⟩
  refine List.forall_mem_cons.mpr ⟨fun _ _ _ _ _ _ _ _ _ _ _ _ _ _ _ _ _ _ X => so_goto (off := 4) (tgt := 629) X (show decode code 625 = .ok (.goto 4, 3) from by decide +kernel) (by decide), ?_⟩
  refine List.forall_mem_cons.mpr ⟨fun _ _ _ _ _ _ _ _ _ _ _ _ _ _ _ _ _ _ X => so_iconst (n := 0) X (show decode code 628 = .ok (.iconst 0, 1) from by decide +kernel), ?_⟩
  refine List.forall_mem_cons.mpr ⟨fun _ _ _ _ _ _ _ _ _ _ _ _ _ _ _ _ _ _ X => so_istore (k := 9) X (show decode code 629 = .ok (.istore 9, 2) from by decide +kernel), ?_⟩
  refine List.forall_mem_cons.mpr ⟨fun _ _ _ _ _ _ _ _ _ _ _ _ _ _ _ _ _ _ X => so_goto (off := 640) (tgt := 1271) X (show decode code 631 = .ok (.goto 640, 3) from by decide +kernel) (by decide), ?_⟩
  refine List.forall_mem_cons.mpr ⟨fun _ _ _ _ _ _ _ _ _ _ _ _ _ _ _ _ _ _ X => so_iload (k := 13) X (show decode code 634 = .ok (.iload 13, 2) from by decide +kernel), ?_⟩
  refine List.forall_mem_cons.mpr ⟨fun _ _ _ _ _ _ _ _ _ _ _ _ _ _ _ _ _ _ X => so_bipush (n := 27) X (by decide +kernel) (show decode code 636 = .ok (.bipush 27, 2) from by decide +kernel), ?_⟩
  refine List.forall_mem_cons.mpr ⟨fun _ _ _ _ _ _ _ _ _ _ _ _ _ _ _ _ _ _ X => so_icmp_ge (off := 85) (tgt := 723) X (show decode code 638 = .ok (.if_icmp .ge 85, 3) from by decide +kernel) (by decide), ?_⟩
  refine List.forall_mem_cons.mpr ⟨fun _ _ _ _ _ _ _ _ _ _ _ _ _ _ _ _ _ _ X => so_iload (k := 12) X (show decode code 641 = .ok (.iload 12, 2) from by decide +kernel), ?_⟩
  refine List.forall_mem_cons.mpr ⟨fun _ _ _ _ _ _ _ _ _ _ _ _ _ _ _ _ _ _ X => so_iconst (n := 1) X (show decode code 643 = .ok (.iconst 1, 1) from by decide +kernel), ?_⟩
  refine List.forall_mem_cons.mpr ⟨fun _ _ _ _ _ _ _ _ _ _ _ _ _ _ _ _ _ _ X => so_ishr X (show decode code 644 = .ok (.ishr, 1) from by decide +kernel), ?_⟩
  refine List.forall_mem_cons.mpr ⟨fun _ _ _ _ _ _ _ _ _ _ _ _ _ _ _ _ _ _ X => so_iconst (n := 5) X (show decode code 645 = .ok (.iconst 5, 1) from by decide +kernel), ?_⟩
  refine List.forall_mem_cons.mpr ⟨fun _ _ _ _ _ _ _ _ _ _ _ _ _ _ _ _ _ _ X => so_irem X (show decode code 646 = .ok (.irem, 1) from by decide +kernel), ?_⟩
  refine List.forall_mem_cons.mpr ⟨fun _ _ _ _ _ _ _ _ _ _ _ _ _ _ _ _ _ _ X => so_istore (k := 14) X (show decode code 647 = .ok (.istore 14, 2) from by decide +kernel), ?_⟩
  refine List.forall_mem_cons.mpr ⟨fun _ _ _ _ _ _ _ _ _ _ _ _ _ _ _ _ _ _ X => so_iload (k := 12) X (show decode code 649 = .ok (.iload 12, 2) from by decide +kernel), ?_⟩
  refine List.forall_mem_cons.mpr ⟨fun _ _ _ _ _ _ _ _ _ _ _ _ _ _ _ _ _ _ X => so_iconst (n := 4) X (show decode code 651 = .ok (.iconst 4, 1) from by decide +kernel), ?_⟩
  refine List.forall_mem_cons.mpr ⟨fun _ _ _ _ _ _ _ _ _ _ _ _ _ _ _ _ _ _ X => so_ishr X (show decode code 652 = .ok (.ishr, 1) from by decide +kernel), ?_⟩
  refine List.forall_mem_cons.mpr ⟨fun _ _ _ _ _ _ _ _ _ _ _ _ _ _ _ _ _ _ X => so_bipush (n := 6) X (by decide +kernel) (show decode code 653 = .ok (.bipush 6, 2) from by decide +kernel), ?_⟩
  refine List.forall_mem_cons.mpr ⟨fun _ _ _ _ _ _ _ _ _ _ _ _ _ _ _ _ _ _ X => so_irem X (show decode code 655 = .ok (.irem, 1) from by decide +kernel), ?_⟩
  refine List.forall_mem_cons.mpr ⟨fun _ _ _ _ _ _ _ _ _ _ _ _ _ _ _ _ _ _ X => so_iconst (n := 1) X (show decode code 656 = .ok (.iconst 1, 1) from by decide +kernel), ?_⟩
  refine List.forall_mem_cons.mpr ⟨fun _ _ _ _ _ _ _ _ _ _ _ _ _ _ _ _ _ _ X => so_isub X (show decode code 657 = .ok (.isub, 1) from by decide +kernel), ?_⟩
  refine List.forall_mem_cons.mpr ⟨fun _ _ _ _ _ _ _ _ _ _ _ _ _ _ _ _ _ _ X => so_istore (k := 15) X (show decode code 658 = .ok (.istore 15, 2) from by decide +kernel), ?_⟩
  refine List.forall_mem_cons.mpr ⟨fun _ _ _ _ _ _ _ _ _ _ _ _ _ _ _ _ _ _ X => so_aload_n (k := 1) X (show decode code 660 = .ok (.aload_n 1, 1) from by decide +kernel), ?_⟩
  refine List.forall_mem_cons.mpr ⟨fun _ _ _ _ _ _ _ _ _ _ _ _ _ _ _ _ _ _ X => so_iconst (n := 5) X (show decode code 661 = .ok (.iconst 5, 1) from by decide +kernel), ?_⟩
  refine List.forall_mem_cons.mpr ⟨fun _ _ _ _ _ _ _ _ _ _ _ _ _ _ _ _ _ _ X => so_iload (k := 14) X (show decode code 662 = .ok (.iload 14, 2) from by decide +kernel), ?_⟩
  refine List.forall_mem_cons.mpr ⟨fun _ _ _ _ _ _ _ _ _ _ _ _ _ _ _ _ _ _ X => so_iload (k := 15) X (show decode code 664 = .ok (.iload 15, 2) from by decide +kernel), ?_⟩
  refine List.forall_mem_cons.mpr ⟨fun _ _ _ _ _ _ _ _ _ _ _ _ _ _ _ _ _ _ X => so_callSW (i := 92) (n := 4) X rfl wq_476 wq_477 wq_18 wd_92 wc_92 (show decode code 666 = .ok (.invokestatic 70, 3) from by decide +kernel), ?_⟩
  refine List.forall_mem_cons.mpr ⟨fun _ _ _ _ _ _ _ _ _ _ _ _ _ _ _ _ _ _ X => so_istore (k := 16) X (show decode code 669 = .ok (.istore 16, 2) from by decide +kernel), ?_⟩
  refine List.forall_mem_cons.mpr ⟨fun _ _ _ _ _ _ _ _ _ _ _ _ _ _ _ _ _ _ X => so_iload (k := 16) X (show decode code 671 = .ok (.iload 16, 2) from by decide +kernel), ?_⟩
  refine List.forall_mem_cons.mpr ⟨fun _ _ _ _ _ _ _ _ _ _ _ _ _ _ _ _ _ _ X => so_iload (k := 14) X (show decode code 673 = .ok (.iload 14, 2) from by decide +kernel), ?_⟩
  refine List.forall_mem_cons.mpr ⟨fun _ _ _ _ _ _ _ _ _ _ _ _ _ _ _ _ _ _ X => so_iload (k := 4) X (show decode code 675 = .ok (.iload 4, 2) from by decide +kernel), ?_⟩
  refine List.forall_mem_cons.mpr ⟨fun _ _ _ _ _ _ _ _ _ _ _ _ _ _ _ _ _ _ X => so_icmp_ge (off := 10) (tgt := 687) X (show decode code 677 = .ok (.if_icmp .ge 10, 3) from by decide +kernel) (by decide), ?_⟩
  refine List.forall_mem_cons.mpr ⟨fun _ _ _ _ _ _ _ _ _ _ _ _ _ _ _ _ _ _ X => so_aload_n (k := 3) X (show decode code 680 = .ok (.aload_n 3, 1) from by decide +kernel), ?_⟩
  refine List.forall_mem_cons.mpr ⟨fun _ _ _ _ _ _ _ _ _ _ _ _ _ _ _ _ _ _ X => so_iload (k := 14) X (show decode code 681 = .ok (.iload 14, 2) from by decide +kernel), ?_⟩
  refine List.forall_mem_cons.mpr ⟨fun _ _ _ _ _ _ _ _ _ _ _ _ _ _ _ _ _ _ X => so_iald X (show decode code 683 = .ok (.iaload, 1) from by decide +kernel), ?_⟩
  refine List.forall_mem_cons.mpr ⟨fun _ _ _ _ _ _ _ _ _ _ _ _ _ _ _ _ _ _ X => so_goto (off := 6) (tgt := 690) X (show decode code 684 = .ok (.goto 6, 3) from by decide +kernel) (by decide), ?_⟩
  refine List.forall_mem_cons.mpr ⟨fun _ _ _ _ _ _ _ _ _ _ _ _ _ _ _ _ _ _ X => so_sipush (n := (-1011)) X (by decide +kernel) (show decode code 687 = .ok (.sipush (-1011), 3) from by decide +kernel), ?_⟩
  refine List.forall_mem_cons.mpr ⟨fun _ _ _ _ _ _ _ _ _ _ _ _ _ _ _ _ _ _ X => so_icmp_ne (off := 7) (tgt := 697) X (show decode code 690 = .ok (.if_icmp .ne 7, 3) from by decide +kernel) (by decide), ?_⟩
  refine List.forall_mem_cons.mpr ⟨fun _ _ _ _ _ _ _ _ _ _ _ _ _ _ _ _ _ _ X => so_iconst (n := 1) X (show decode code 693 = .ok (.iconst 1, 1) from by decide +kernel), ?_⟩
  refine List.forall_mem_cons.mpr ⟨fun _ _ _ _ _ _ _ _ _ _ _ _ _ _ _ _ _ _ X => so_goto (off := 4) (tgt := 698) X (show decode code 694 = .ok (.goto 4, 3) from by decide +kernel) (by decide), ?_⟩
  refine List.forall_mem_cons.mpr ⟨fun _ _ _ _ _ _ _ _ _ _ _ _ _ _ _ _ _ _ X => so_iconst (n := 0) X (show decode code 697 = .ok (.iconst 0, 1) from by decide +kernel), ?_⟩
  refine List.forall_mem_cons.mpr ⟨fun _ _ _ _ _ _ _ _ _ _ _ _ _ _ _ _ _ _ X => so_istore (k := 9) X (show decode code 698 = .ok (.istore 9, 2) from by decide +kernel), ?_⟩
  refine List.forall_mem_cons.mpr ⟨fun _ _ _ _ _ _ _ _ _ _ _ _ _ _ _ _ _ _ X => so_aload_n (k := 3) X (show decode code 700 = .ok (.aload_n 3, 1) from by decide +kernel), ?_⟩
  refine List.forall_mem_cons.mpr ⟨fun _ _ _ _ _ _ _ _ _ _ _ _ _ _ _ _ _ _ X => so_iload (k := 14) X (show decode code 701 = .ok (.iload 14, 2) from by decide +kernel), ?_⟩
  refine List.forall_mem_cons.mpr ⟨fun _ _ _ _ _ _ _ _ _ _ _ _ _ _ _ _ _ _ X => so_iload (k := 14) X (show decode code 703 = .ok (.iload 14, 2) from by decide +kernel), ?_⟩
  refine List.forall_mem_cons.mpr ⟨fun _ _ _ _ _ _ _ _ _ _ _ _ _ _ _ _ _ _ X => so_iload (k := 4) X (show decode code 705 = .ok (.iload 4, 2) from by decide +kernel), ?_⟩
  refine List.forall_mem_cons.mpr ⟨fun _ _ _ _ _ _ _ _ _ _ _ _ _ _ _ _ _ _ X => so_icmp_ge (off := 8) (tgt := 715) X (show decode code 707 = .ok (.if_icmp .ge 8, 3) from by decide +kernel) (by decide), ?_⟩
  refine List.forall_mem_cons.mpr ⟨fun _ _ _ _ _ _ _ _ _ _ _ _ _ _ _ _ _ _ X => so_iload (k := 15) X (show decode code 710 = .ok (.iload 15, 2) from by decide +kernel), ?_⟩
  refine List.forall_mem_cons.mpr ⟨fun _ _ _ _ _ _ _ _ _ _ _ _ _ _ _ _ _ _ X => so_goto (off := 7) (tgt := 719) X (show decode code 712 = .ok (.goto 7, 3) from by decide +kernel) (by decide), ?_⟩
  refine List.forall_mem_cons.mpr ⟨fun _ _ _ _ _ _ _ _ _ _ _ _ _ _ _ _ _ _ X => so_aload_n (k := 3) X (show decode code 715 = .ok (.aload_n 3, 1) from by decide +kernel), ?_⟩
  refine List.forall_mem_cons.mpr ⟨fun _ _ _ _ _ _ _ _ _ _ _ _ _ _ _ _ _ _ X => so_iload (k := 14) X (show decode code 716 = .ok (.iload 14, 2) from by decide +kernel), ?_⟩
  refine List.forall_mem_cons.mpr ⟨fun _ _ _ _ _ _ _ _ _ _ _ _ _ _ _ _ _ _ X => so_iald X (show decode code 718 = .ok (.iaload, 1) from by decide +kernel), ?_⟩
  refine List.forall_mem_cons.mpr ⟨fun _ _ _ _ _ _ _ _ _ _ _ _ _ _ _ _ _ _ X => so_iast X (show decode code 719 = .ok (.iastore, 1) from by decide +kernel), ?_⟩
  refine List.forall_mem_cons.mpr ⟨fun _ _ _ _ _ _ _ _ _ _ _ _ _ _ _ _ _ _ X => so_goto (off := 551) (tgt := 1271) X (show decode code 720 = .ok (.goto 551, 3) from by decide +kernel) (by decide), ?_⟩
  refine List.forall_mem_cons.mpr ⟨fun _ _ _ _ _ _ _ _ _ _ _ _ _ _ _ _ _ _ X => so_iload (k := 4) X (show decode code 723 = .ok (.iload 4, 2) from by decide +kernel), ?_⟩
  refine List.forall_mem_cons.mpr ⟨fun _ _ _ _ _ _ _ _ _ _ _ _ _ _ _ _ _ _ X => so_if_le (off := 546) (tgt := 1271) X (show decode code 725 = .ok (.ifCond .le 546, 3) from by decide +kernel) (by decide), ?_⟩
  refine List.forall_mem_cons.mpr ⟨fun _ _ _ _ _ _ _ _ _ _ _ _ _ _ _ _ _ _ X => so_iload (k := 8) X (show decode code 728 = .ok (.iload 8, 2) from by decide +kernel), ?_⟩
  refine List.forall_mem_cons.mpr ⟨fun _ _ _ _ _ _ _ _ _ _ _ _ _ _ _ _ _ _ X => so_bipush (n := 14) X (by decide +kernel) (show decode code 730 = .ok (.bipush 14, 2) from by decide +kernel), ?_⟩
  refine List.forall_mem_cons.mpr ⟨fun _ _ _ _ _ _ _ _ _ _ _ _ _ _ _ _ _ _ X => so_icmp_ge (off := 539) (tgt := 1271) X (show decode code 732 = .ok (.if_icmp .ge 539, 3) from by decide +kernel) (by decide), ?_⟩
  refine List.forall_mem_cons.mpr ⟨fun _ _ _ _ _ _ _ _ _ _ _ _ _ _ _ _ _ _ X => so_iinc (k := 8) (n := 1) X (show decode code 735 = .ok (.iinc 8 1, 3) from by decide +kernel), ?_⟩
  refine List.forall_mem_cons.mpr ⟨fun _ _ _ _ _ _ _ _ _ _ _ _ _ _ _ _ _ _ X => so_aload_n (k := 1) X (show decode code 738 = .ok (.aload_n 1, 1) from by decide +kernel), ?_⟩
  refine List.forall_mem_cons.mpr ⟨fun _ _ _ _ _ _ _ _ _ _ _ _ _ _ _ _ _ _ X => so_iload (k := 4) X (show decode code 739 = .ok (.iload 4, 2) from by decide +kernel), ?_⟩
  refine List.forall_mem_cons.mpr ⟨fun _ _ _ _ _ _ _ _ _ _ _ _ _ _ _ _ _ _ X => so_aload_n (k := 3) X (show decode code 741 = .ok (.aload_n 3, 1) from by decide +kernel), ?_⟩
  refine List.forall_mem_cons.mpr ⟨fun _ _ _ _ _ _ _ _ _ _ _ _ _ _ _ _ _ _ X => so_callS (i := 95) (n := 3) X rfl wq_689 wq_690 wq_18 wd_95 wc_95 (show decode code 742 = .ok (.invokestatic 85, 3) from by decide +kernel), ?_⟩
  refine List.forall_mem_cons.mpr ⟨fun _ _ _ _ _ _ _ _ _ _ _ _ _ _ _ _ _ _ X => so_istore (k := 9) X (show decode code 745 = .ok (.istore 9, 2) from by decide +kernel), ?_⟩
  refine List.forall_mem_cons.mpr ⟨fun _ _ _ _ _ _ _ _ _ _ _ _ _ _ _ _ _ _ X => so_iload (k := 12) X (show decode code 747 = .ok (.iload 12, 2) from by decide +kernel), ?_⟩
  refine List.forall_mem_cons.mpr ⟨fun _ _ _ _ _ _ _ _ _ _ _ _ _ _ _ _ _ _ X => so_iconst (n := 3) X (show decode code 749 = .ok (.iconst 3, 1) from by decide +kernel), ?_⟩
  refine List.forall_mem_cons.mpr ⟨fun _ _ _ _ _ _ _ _ _ _ _ _ _ _ _ _ _ _ X => so_ishr X (show decode code 750 = .ok (.ishr, 1) from by decide +kernel), ?_⟩
  refine List.forall_mem_cons.mpr ⟨fun _ _ _ _ _ _ _ _ _ _ _ _ _ _ _ _ _ _ X => so_iload (k := 4) X (show decode code 751 = .ok (.iload 4, 2) from by decide +kernel), ?_⟩
  refine List.forall_mem_cons.mpr ⟨fun _ _ _ _ _ _ _ _ _ _ _ _ _ _ _ _ _ _ X => so_irem X (show decode code 753 = .ok (.irem, 1) from by decide +kernel), ?_⟩
  refine List.forall_mem_cons.mpr ⟨fun _ _ _ _ _ _ _ _ _ _ _ _ _ _ _ _ _ _ X => so_istore (k := 14) X (show decode code 754 = .ok (.istore 14, 2) from by decide +kernel), ?_⟩
  refine List.forall_mem_cons.mpr ⟨fun _ _ _ _ _ _ _ _ _ _ _ _ _ _ _ _ _ _ X => so_iload (k := 12) X (show decode code 756 = .ok (.iload 12, 2) from by decide +kernel), ?_⟩
  refine List.forall_mem_cons.mpr ⟨fun _ _ _ _ _ _ _ _ _ _ _ _ _ _ _ _ _ _ X => so_bipush (n := 6) X (by decide +kernel) (show decode code 758 = .ok (.bipush 6, 2) from by decide +kernel), ?_⟩
  refine List.forall_mem_cons.mpr ⟨fun _ _ _ _ _ _ _ _ _ _ _ _ _ _ _ _ _ _ X => so_ishr X (show decode code 760 = .ok (.ishr, 1) from by decide +kernel), ?_⟩
  refine List.forall_mem_cons.mpr ⟨fun _ _ _ _ _ _ _ _ _ _ _ _ _ _ _ _ _ _ X => so_iconst (n := 5) X (show decode code 761 = .ok (.iconst 5, 1) from by decide +kernel), ?_⟩
  refine List.forall_mem_cons.mpr ⟨fun _ _ _ _ _ _ _ _ _ _ _ _ _ _ _ _ _ _ X => so_irem X (show decode code 762 = .ok (.irem, 1) from by decide +kernel), ?_⟩
  refine List.forall_mem_cons.mpr ⟨fun _ _ _ _ _ _ _ _ _ _ _ _ _ _ _ _ _ _ X => so_istore (k := 15) X (show decode code 763 = .ok (.istore 15, 2) from by decide +kernel), ?_⟩
  refine List.forall_mem_cons.mpr ⟨fun _ _ _ _ _ _ _ _ _ _ _ _ _ _ _ _ _ _ X => so_iload (k := 8) X (show decode code 765 = .ok (.iload 8, 2) from by decide +kernel), ?_⟩
  refine List.forall_mem_cons.mpr ⟨fun _ _ _ _ _ _ _ _ _ _ _ _ _ _ _ _ _ _ X => so_iconst (n := 5) X (show decode code 767 = .ok (.iconst 5, 1) from by decide +kernel), ?_⟩
  refine List.forall_mem_cons.mpr ⟨fun _ _ _ _ _ _ _ _ _ _ _ _ _ _ _ _ _ _ X => so_irem X (show decode code 768 = .ok (.irem, 1) from by decide +kernel), ?_⟩
  refine List.forall_mem_cons.mpr ⟨fun _ _ _ _ _ _ _ _ _ _ _ _ _ _ _ _ _ _ X => so_iconst (n := 1) X (show decode code 769 = .ok (.iconst 1, 1) from by decide +kernel), ?_⟩
  refine List.forall_mem_cons.mpr ⟨fun _ _ _ _ _ _ _ _ _ _ _ _ _ _ _ _ _ _ X => so_icmp_ne (off := 73) (tgt := 843) X (show decode code 770 = .ok (.if_icmp .ne 73, 3) from by decide +kernel) (by decide), ?_⟩
  refine List.forall_mem_cons.mpr ⟨fun _ _ _ _ _ _ _ _ _ _ _ _ _ _ _ _ _ _ X => so_iload (k := 9) X (show decode code 773 = .ok (.iload 9, 2) from by decide +kernel), ?_⟩
  refine List.forall_mem_cons.mpr ⟨fun _ _ _ _ _ _ _ _ _ _ _ _ _ _ _ _ _ _ X => so_if_eq (off := 65) (tgt := 840) X (show decode code 775 = .ok (.ifCond .eq 65, 3) from by decide +kernel) (by decide), ?_⟩
  refine List.forall_mem_cons.mpr ⟨fun _ _ _ _ _ _ _ _ _ _ _ _ _ _ _ _ _ _ X => so_aload_n (k := 1) X (show decode code 778 = .ok (.aload_n 1, 1) from by decide +kernel), ?_⟩
  refine List.forall_mem_cons.mpr ⟨fun _ _ _ _ _ _ _ _ _ _ _ _ _ _ _ _ _ _ X => so_bipush (n := 11) X (by decide +kernel) (show decode code 779 = .ok (.bipush 11, 2) from by decide +kernel), ?_⟩
  refine List.forall_mem_cons.mpr ⟨fun _ _ _ _ _ _ _ _ _ _ _ _ _ _ _ _ _ _ X => so_iload (k := 14) X (show decode code 781 = .ok (.iload 14, 2) from by decide +kernel), ?_⟩
  refine List.forall_mem_cons.mpr ⟨fun _ _ _ _ _ _ _ _ _ _ _ _ _ _ _ _ _ _ X => so_iload (k := 15) X (show decode code 783 = .ok (.iload 15, 2) from by decide +kernel), ?_⟩
  refine List.forall_mem_cons.mpr ⟨fun _ _ _ _ _ _ _ _ _ _ _ _ _ _ _ _ _ _ X => so_callSW (i := 92) (n := 4) X rfl wq_476 wq_477 wq_18 wd_92 wc_92 (show decode code 785 = .ok (.invokestatic 70, 3) from by decide +kernel), ?_⟩
  refine List.forall_mem_cons.mpr ⟨fun _ _ _ _ _ _ _ _ _ _ _ _ _ _ _ _ _ _ X => so_aload_n (k := 1) X (show decode code 788 = .ok (.aload_n 1, 1) from by decide +kernel), ?_⟩
  refine List.forall_mem_cons.mpr ⟨fun _ _ _ _ _ _ _ _ _ _ _ _ _ _ _ _ _ _ X => so_bipush (n := 10) X (by decide +kernel) (show decode code 789 = .ok (.bipush 10, 2) from by decide +kernel), ?_⟩
  refine List.forall_mem_cons.mpr ⟨fun _ _ _ _ _ _ _ _ _ _ _ _ _ _ _ _ _ _ X => so_iload (k := 14) X (show decode code 791 = .ok (.iload 14, 2) from by decide +kernel), ?_⟩
  refine List.forall_mem_cons.mpr ⟨fun _ _ _ _ _ _ _ _ _ _ _ _ _ _ _ _ _ _ X => so_iload (k := 15) X (show decode code 793 = .ok (.iload 15, 2) from by decide +kernel), ?_⟩
  refine List.forall_mem_cons.mpr ⟨fun _ _ _ _ _ _ _ _ _ _ _ _ _ _ _ _ _ _ X => so_callSW (i := 92) (n := 4) X rfl wq_476 wq_477 wq_18 wd_92 wc_92 (show decode code 795 = .ok (.invokestatic 70, 3) from by decide +kernel), ?_⟩
  refine List.forall_mem_cons.mpr ⟨fun _ _ _ _ _ _ _ _ _ _ _ _ _ _ _ _ _ _ X => so_icmp_ne (off := 42) (tgt := 840) X (show decode code 798 = .ok (.if_icmp .ne 42, 3) from by decide +kernel) (by decide), ?_⟩
  refine List.forall_mem_cons.mpr ⟨fun _ _ _ _ _ _ _ _ _ _ _ _ _ _ _ _ _ _ X => so_aload_n (k := 1) X (show decode code 801 = .ok (.aload_n 1, 1) from by decide +kernel), ?_⟩
  refine List.forall_mem_cons.mpr ⟨fun _ _ _ _ _ _ _ _ _ _ _ _ _ _ _ _ _ _ X => so_bipush (n := 9) X (by decide +kernel) (show decode code 802 = .ok (.bipush 9, 2) from by decide +kernel), ?_⟩
  refine List.forall_mem_cons.mpr ⟨fun _ _ _ _ _ _ _ _ _ _ _ _ _ _ _ _ _ _ X => so_iload (k := 12) X (show decode code 804 = .ok (.iload 12, 2) from by decide +kernel), ?_⟩
  refine List.forall_mem_cons.mpr ⟨fun _ _ _ _ _ _ _ _ _ _ _ _ _ _ _ _ _ _ X => so_bipush (n := 9) X (by decide +kernel) (show decode code 806 = .ok (.bipush 9, 2) from by decide +kernel), ?_⟩
  refine List.forall_mem_cons.mpr ⟨fun _ _ _ _ _ _ _ _ _ _ _ _ _ _ _ _ _ _ X => so_ishr X (show decode code 808 = .ok (.ishr, 1) from by decide +kernel), ?_⟩
  refine List.forall_mem_cons.mpr ⟨fun _ _ _ _ _ _ _ _ _ _ _ _ _ _ _ _ _ _ X => so_bipush (n := 7) X (by decide +kernel) (show decode code 809 = .ok (.bipush 7, 2) from by decide +kernel), ?_⟩
  refine List.forall_mem_cons.mpr ⟨fun _ _ _ _ _ _ _ _ _ _ _ _ _ _ _ _ _ _ X => so_iandm (y0 := 7) (M := 8) X (fun _ => m_7) (show decode code 811 = .ok (.iand, 1) from by decide +kernel), ?_⟩
  refine List.forall_mem_cons.mpr ⟨fun _ _ _ _ _ _ _ _ _ _ _ _ _ _ _ _ _ _ X => so_iload (k := 14) X (show decode code 812 = .ok (.iload 14, 2) from by decide +kernel), ?_⟩
  refine List.forall_mem_cons.mpr ⟨fun _ _ _ _ _ _ _ _ _ _ _ _ _ _ _ _ _ _ X => so_callSW (i := 92) (n := 4) X rfl wq_476 wq_477 wq_18 wd_92 wc_92 (show decode code 814 = .ok (.invokestatic 70, 3) from by decide +kernel), ?_⟩
  refine List.forall_mem_cons.mpr ⟨fun _ _ _ _ _ _ _ _ _ _ _ _ _ _ _ _ _ _ X => so_aload_n (k := 1) X (show decode code 817 = .ok (.aload_n 1, 1) from by decide +kernel), ?_⟩
  refine List.forall_mem_cons.mpr ⟨fun _ _ _ _ _ _ _ _ _ _ _ _ _ _ _ _ _ _ X => so_bipush (n := 8) X (by decide +kernel) (show decode code 818 = .ok (.bipush 8, 2) from by decide +kernel), ?_⟩
  refine List.forall_mem_cons.mpr ⟨fun _ _ _ _ _ _ _ _ _ _ _ _ _ _ _ _ _ _ X => so_iload (k := 12) X (show decode code 820 = .ok (.iload 12, 2) from by decide +kernel), ?_⟩
  refine List.forall_mem_cons.mpr ⟨fun _ _ _ _ _ _ _ _ _ _ _ _ _ _ _ _ _ _ X => so_bipush (n := 9) X (by decide +kernel) (show decode code 822 = .ok (.bipush 9, 2) from by decide +kernel), ?_⟩
  refine List.forall_mem_cons.mpr ⟨fun _ _ _ _ _ _ _ _ _ _ _ _ _ _ _ _ _ _ X => so_ishr X (show decode code 824 = .ok (.ishr, 1) from by decide +kernel), ?_⟩
  refine List.forall_mem_cons.mpr ⟨fun _ _ _ _ _ _ _ _ _ _ _ _ _ _ _ _ _ _ X => so_bipush (n := 7) X (by decide +kernel) (show decode code 825 = .ok (.bipush 7, 2) from by decide +kernel), ?_⟩
  refine List.forall_mem_cons.mpr ⟨fun _ _ _ _ _ _ _ _ _ _ _ _ _ _ _ _ _ _ X => so_iandm (y0 := 7) (M := 8) X (fun _ => m_7) (show decode code 827 = .ok (.iand, 1) from by decide +kernel), ?_⟩
  refine List.forall_mem_cons.mpr ⟨fun _ _ _ _ _ _ _ _ _ _ _ _ _ _ _ _ _ _ X => so_iload (k := 14) X (show decode code 828 = .ok (.iload 14, 2) from by decide +kernel), ?_⟩
  refine List.forall_mem_cons.mpr ⟨fun _ _ _ _ _ _ _ _ _ _ _ _ _ _ _ _ _ _ X => so_callSW (i := 92) (n := 4) X rfl wq_476 wq_477 wq_18 wd_92 wc_92 (show decode code 830 = .ok (.invokestatic 70, 3) from by decide +kernel), ?_⟩
  refine List.forall_mem_cons.mpr ⟨fun _ _ _ _ _ _ _ _ _ _ _ _ _ _ _ _ _ _ X => so_icmp_ne (off := 7) (tgt := 840) X (show decode code 833 = .ok (.if_icmp .ne 7, 3) from by decide +kernel) (by decide), ?_⟩
  refine List.forall_mem_cons.mpr ⟨fun _ _ _ _ _ _ _ _ _ _ _ _ _ _ _ _ _ _ X => so_iconst (n := 1) X (show decode code 836 = .ok (.iconst 1, 1) from by decide +kernel), ?_⟩
  refine List.forall_mem_cons.mpr ⟨fun _ _ _ _ _ _ _ _ _ _ _ _ _ _ _ _ _ _ X => so_goto (off := 4) (tgt := 841) X (show decode code 837 = .ok (.goto 4, 3) from by decide +kernel) (by decide), ?_⟩
  refine List.forall_mem_cons.mpr ⟨fun _ _ _ _ _ _ _ _ _ _ _ _ _ _ _ _ _ _ X => so_iconst (n := 0) X (show decode code 840 = .ok (.iconst 0, 1) from by decide +kernel), ?_⟩
  refine List.forall_mem_cons.mpr ⟨fun _ _ _ _ _ _ _ _ _ _ _ _ _ _ _ _ _ _ X => so_istore (k := 9) X (show decode code 841 = .ok (.istore 9, 2) from by decide +kernel), ?_⟩
  refine List.forall_mem_cons.mpr ⟨fun _ _ _ _ _ _ _ _ _ _ _ _ _ _ _ _ _ _ X => so_iconst (n := 1) X (show decode code 843 = .ok (.iconst 1, 1) from by decide +kernel), ?_⟩
  refine List.forall_mem_cons.mpr ⟨fun _ _ _ _ _ _ _ _ _ _ _ _ _ _ _ _ _ _ X => so_iload (k := 12) X (show decode code 844 = .ok (.iload 12, 2) from by decide +kernel), ?_⟩
  refine List.forall_mem_cons.mpr ⟨fun _ _ _ _ _ _ _ _ _ _ _ _ _ _ _ _ _ _ X => so_iconst (n := 4) X (show decode code 846 = .ok (.iconst 4, 1) from by decide +kernel), ?_⟩
  refine List.forall_mem_cons.mpr ⟨fun _ _ _ _ _ _ _ _ _ _ _ _ _ _ _ _ _ _ X => so_ishr X (show decode code 847 = .ok (.ishr, 1) from by decide +kernel), ?_⟩
  refine List.forall_mem_cons.mpr ⟨fun _ _ _ _ _ _ _ _ _ _ _ _ _ _ _ _ _ _ X => so_iconst (n := 4) X (show decode code 848 = .ok (.iconst 4, 1) from by decide +kernel), ?_⟩
  refine List.forall_mem_cons.mpr ⟨fun _ _ _ _ _ _ _ _ _ _ _ _ _ _ _ _ _ _ X => so_irem X (show decode code 849 = .ok (.irem, 1) from by decide +kernel), ?_⟩
  refine List.forall_mem_cons.mpr ⟨fun _ _ _ _ _ _ _ _ _ _ _ _ _ _ _ _ _ _ X => so_iadd X (show decode code 850 = .ok (.iadd, 1) from by decide +kernel), ?_⟩
  refine List.forall_mem_cons.mpr ⟨fun _ _ _ _ _ _ _ _ _ _ _ _ _ _ _ _ _ _ X => so_istore (k := 16) X (show decode code 851 = .ok (.istore 16, 2) from by decide +kernel), ?_⟩
  refine List.forall_mem_cons.mpr ⟨fun _ _ _ _ _ _ _ _ _ _ _ _ _ _ _ _ _ _ X => so_iload (k := 9) X (show decode code 853 = .ok (.iload 9, 2) from by decide +kernel), ?_⟩
  refine List.forall_mem_cons.mpr ⟨fun _ _ _ _ _ _ _ _ _ _ _ _ _ _ _ _ _ _ X => so_if_eq (off := 39) (tgt := 894) X (show decode code 855 = .ok (.ifCond .eq 39, 3) from by decide +kernel) (by decide), ?_⟩
  refine List.forall_mem_cons.mpr ⟨fun _ _ _ _ _ _ _ _ _ _ _ _ _ _ _ _ _ _ X => so_iload (k := 7) X (show decode code 858 = .ok (.iload 7, 2) from by decide +kernel), ?_⟩
  refine List.forall_mem_cons.mpr ⟨fun _ _ _ _ _ _ _ _ _ _ _ _ _ _ _ _ _ _ X => so_if_eq (off := 30) (tgt := 890) X (show decode code 860 = .ok (.ifCond .eq 30, 3) from by decide +kernel) (by decide), ?_⟩
  refine List.forall_mem_cons.mpr ⟨fun _ _ _ _ _ _ _ _ _ _ _ _ _ _ _ _ _ _ X => so_aload_n (k := 1) X (show decode code 863 = .ok (.aload_n 1, 1) from by decide +kernel), ?_⟩
  refine List.forall_mem_cons.mpr ⟨fun _ _ _ _ _ _ _ _ _ _ _ _ _ _ _ _ _ _ X => so_iconst (n := 1) X (show decode code 864 = .ok (.iconst 1, 1) from by decide +kernel), ?_⟩
  refine List.forall_mem_cons.mpr ⟨fun _ _ _ _ _ _ _ _ _ _ _ _ _ _ _ _ _ _ X => so_iconst (n := 0) X (show decode code 865 = .ok (.iconst 0, 1) from by decide +kernel), ?_⟩
  refine List.forall_mem_cons.mpr ⟨fun _ _ _ _ _ _ _ _ _ _ _ _ _ _ _ _ _ _ X => so_iconst (n := 0) X (show decode code 866 = .ok (.iconst 0, 1) from by decide +kernel), ?_⟩
  refine List.forall_mem_cons.mpr ⟨fun _ _ _ _ _ _ _ _ _ _ _ _ _ _ _ _ _ _ X => so_callSW (i := 92) (n := 4) X rfl wq_476 wq_477 wq_18 wd_92 wc_92 (show decode code 867 = .ok (.invokestatic 70, 3) from by decide +kernel), ?_⟩
  refine List.forall_mem_cons.mpr ⟨fun _ _ _ _ _ _ _ _ _ _ _ _ _ _ _ _ _ _ X => so_iload (k := 6) X (show decode code 870 = .ok (.iload 6, 2) from by decide +kernel), ?_⟩
  refine List.forall_mem_cons.mpr ⟨fun _ _ _ _ _ _ _ _ _ _ _ _ _ _ _ _ _ _ X => so_bipush (n := 6) X (by decide +kernel) (show decode code 872 = .ok (.bipush 6, 2) from by decide +kernel), ?_⟩
  refine List.forall_mem_cons.mpr ⟨fun _ _ _ _ _ _ _ _ _ _ _ _ _ _ _ _ _ _ X => so_icmp_ne (off := 9) (tgt := 883) X (show decode code 874 = .ok (.if_icmp .ne 9, 3) from by decide +kernel) (by decide), ?_⟩
  refine List.forall_mem_cons.mpr ⟨fun _ _ _ _ _ _ _ _ _ _ _ _ _ _ _ _ _ _ X => so_sipush (n := (-1013)) X (by decide +kernel) (show decode code 877 = .ok (.sipush (-1013), 3) from by decide +kernel), ?_⟩
  refine List.forall_mem_cons.mpr ⟨fun _ _ _ _ _ _ _ _ _ _ _ _ _ _ _ _ _ _ X => so_goto (off := 7) (tgt := 887) X (show decode code 880 = .ok (.goto 7, 3) from by decide +kernel) (by decide), ?_⟩
  refine List.forall_mem_cons.mpr ⟨fun _ _ _ _ _ _ _ _ _ _ _ _ _ _ _ _ _ _ X => so_iload (k := 6) X (show decode code 883 = .ok (.iload 6, 2) from by decide +kernel), ?_⟩
  refine List.forall_mem_cons.mpr ⟨fun _ _ _ _ _ _ _ _ _ _ _ _ _ _ _ _ _ _ X => so_iconst (n := 1) X (show decode code 885 = .ok (.iconst 1, 1) from by decide +kernel), ?_⟩
  refine List.forall_mem_cons.mpr ⟨fun _ _ _ _ _ _ _ _ _ _ _ _ _ _ _ _ _ _ X => so_iadd X (show decode code 886 = .ok (.iadd, 1) from by decide +kernel), ?_⟩
  refine List.forall_mem_cons.mpr ⟨fun _ _ _ _ _ _ _ _ _ _ _ _ _ _ _ _ _ _ X => so_icmp_ne (off := 7) (tgt := 894) X (show decode code 887 = .ok (.if_icmp .ne 7, 3) from by decide +kernel) (by decide), ?_⟩
  refine List.forall_mem_cons.mpr ⟨fun _ _ _ _ _ _ _ _ _ _ _ _ _ _ _ _ _ _ X => so_iconst (n := 1) X (show decode code 890 = .ok (.iconst 1, 1) from by decide +kernel), ?_⟩
  refine List.forall_mem_cons.mpr ⟨fun _ _ _ _ _ _ _ _ _ _ _ _ _ _ _ _ _ _ X => so_goto (off := 4) (tgt := 895) X (show decode code 891 = .ok (.goto 4, 3) from by decide +kernel) (by decide), ?_⟩
  refine List.forall_mem_cons.mpr ⟨fun _ _ _ _ _ _ _ _ _ _ _ _ _ _ _ _ _ _ X => so_iconst (n := 0) X (show decode code 894 = .ok (.iconst 0, 1) from by decide +kernel), ?_⟩
  refine List.forall_mem_cons.mpr ⟨fun _ _ _ _ _ _ _ _ _ _ _ _ _ _ _ _ _ _ X => so_istore (k := 9) X (show decode code 895 = .ok (.istore 9, 2) from by decide +kernel), ?_⟩
  refine List.forall_mem_cons.mpr ⟨fun _ _ _ _ _ _ _ _ _ _ _ _ _ _ _ _ _ _ X => so_iload (k := 6) X (show decode code 897 = .ok (.iload 6, 2) from by decide +kernel), ?_⟩
  refine List.forall_mem_cons.mpr ⟨fun _ _ _ _ _ _ _ _ _ _ _ _ _ _ _ _ _ _ X => so_iload (k := 7) X (show decode code 899 = .ok (.iload 7, 2) from by decide +kernel), ?_⟩
  refine List.forall_mem_cons.mpr ⟨fun _ _ _ _ _ _ _ _ _ _ _ _ _ _ _ _ _ _ X => so_if_eq (off := 14) (tgt := 915) X (show decode code 901 = .ok (.ifCond .eq 14, 3) from by decide +kernel) (by decide), ?_⟩
  refine List.forall_mem_cons.mpr ⟨fun _ _ _ _ _ _ _ _ _ _ _ _ _ _ _ _ _ _ X => so_iload (k := 6) X (show decode code 904 = .ok (.iload 6, 2) from by decide +kernel), ?_⟩
  refine List.forall_mem_cons.mpr ⟨fun _ _ _ _ _ _ _ _ _ _ _ _ _ _ _ _ _ _ X => so_bipush (n := 6) X (by decide +kernel) (show decode code 906 = .ok (.bipush 6, 2) from by decide +kernel), ?_⟩
  refine List.forall_mem_cons.mpr ⟨fun _ _ _ _ _ _ _ _ _ _ _ _ _ _ _ _ _ _ X => so_icmp_ge (off := 7) (tgt := 915) X (show decode code 908 = .ok (.if_icmp .ge 7, 3) from by decide +kernel) (by decide), ?_⟩
  refine List.forall_mem_cons.mpr ⟨fun _ _ _ _ _ _ _ _ _ _ _ _ _ _ _ _ _ _ X => so_iconst (n := 1) X (show decode code 911 = .ok (.iconst 1, 1) from by decide +kernel), ?_⟩
  refine List.forall_mem_cons.mpr ⟨fun _ _ _ _ _ _ _ _ _ _ _ _ _ _ _ _ _ _ X => so_goto (off := 4) (tgt := 916) X (show decode code 912 = .ok (.goto 4, 3) from by decide +kernel) (by decide), ?_⟩
  refine List.forall_mem_cons.mpr ⟨fun _ _ _ _ _ _ _ _ _ _ _ _ _ _ _ _ _ _ X => so_iconst (n := 0) X (show decode code 915 = .ok (.iconst 0, 1) from by decide +kernel), ?_⟩
  refine List.forall_mem_cons.mpr ⟨fun _ _ _ _ _ _ _ _ _ _ _ _ _ _ _ _ _ _ X => so_iadd X (show decode code 916 = .ok (.iadd, 1) from by decide +kernel), ?_⟩
  refine List.forall_mem_cons.mpr ⟨fun _ _ _ _ _ _ _ _ _ _ _ _ _ _ _ _ _ _ X => so_istore (k := 6) X (show decode code 917 = .ok (.istore 6, 2) from by decide +kernel), ?_⟩
  refine List.forall_mem_cons.mpr ⟨fun _ _ _ _ _ _ _ _ _ _ _ _ _ _ _ _ _ _ X => so_aload_n (k := 1) X (show decode code 919 = .ok (.aload_n 1, 1) from by decide +kernel), ?_⟩
  refine List.forall_mem_cons.mpr ⟨fun _ _ _ _ _ _ _ _ _ _ _ _ _ _ _ _ _ _ X => so_bipush (n := 6) X (by decide +kernel) (show decode code 920 = .ok (.bipush 6, 2) from by decide +kernel), ?_⟩
  refine List.forall_mem_cons.mpr ⟨fun _ _ _ _ _ _ _ _ _ _ _ _ _ _ _ _ _ _ X => so_iconst (n := 0) X (show decode code 922 = .ok (.iconst 0, 1) from by decide +kernel), ?_⟩
  refine List.forall_mem_cons.mpr ⟨fun _ _ _ _ _ _ _ _ _ _ _ _ _ _ _ _ _ _ X => so_iconst (n := 0) X (show decode code 923 = .ok (.iconst 0, 1) from by decide +kernel), ?_⟩
  refine List.forall_mem_cons.mpr ⟨fun _ _ _ _ _ _ _ _ _ _ _ _ _ _ _ _ _ _ X => so_callSW (i := 92) (n := 4) X rfl wq_476 wq_477 wq_18 wd_92 wc_92 (show decode code 924 = .ok (.invokestatic 70, 3) from by decide +kernel), ?_⟩
  refine List.forall_mem_cons.mpr ⟨fun _ _ _ _ _ _ _ _ _ _ _ _ _ _ _ _ _ _ X => so_sipush (n := (-1013)) X (by decide +kernel) (show decode code 927 = .ok (.sipush (-1013), 3) from by decide +kernel), ?_⟩
  refine List.forall_mem_cons.mpr ⟨fun _ _ _ _ _ _ _ _ _ _ _ _ _ _ _ _ _ _ X => so_icmp_ne (off := 338) (tgt := 1268) X (show decode code 930 = .ok (.if_icmp .ne 338, 3) from by decide +kernel) (by decide), ?_⟩
  refine List.forall_mem_cons.mpr ⟨fun _ _ _ _ _ _ _ _ _ _ _ _ _ _ _ _ _ _ X => so_iload (k := 9) X (show decode code 933 = .ok (.iload 9, 2) from by decide +kernel), ?_⟩
  refine List.forall_mem_cons.mpr ⟨fun _ _ _ _ _ _ _ _ _ _ _ _ _ _ _ _ _ _ X => so_if_eq (off := 16) (tgt := 951) X (show decode code 935 = .ok (.ifCond .eq 16, 3) from by decide +kernel) (by decide), ?_⟩
  refine List.forall_mem_cons.mpr ⟨fun _ _ _ _ _ _ _ _ _ _ _ _ _ _ _ _ _ _ X => so_aload_n (k := 1) X (show decode code 938 = .ok (.aload_n 1, 1) from by decide +kernel), ?_⟩
  refine List.forall_mem_cons.mpr ⟨fun _ _ _ _ _ _ _ _ _ _ _ _ _ _ _ _ _ _ X => so_callV (i := 67) (cn := 8) (n := 0) X rfl rfl rfl wq_232 wq_233 wq_234 wq_19 wd_67 wc_67 (show decode code 939 = .ok (.invokevirtual 79, 3) from by decide +kernel), ?_⟩
  refine List.forall_mem_cons.mpr ⟨fun _ _ _ _ _ _ _ _ _ _ _ _ _ _ _ _ _ _ X => so_iload (k := 4) X (show decode code 942 = .ok (.iload 4, 2) from by decide +kernel), ?_⟩
  refine List.forall_mem_cons.mpr ⟨fun _ _ _ _ _ _ _ _ _ _ _ _ _ _ _ _ _ _ X => so_icmp_ne (off := 7) (tgt := 951) X (show decode code 944 = .ok (.if_icmp .ne 7, 3) from by decide +kernel) (by decide), ?_⟩
  refine List.forall_mem_cons.mpr ⟨fun _ _ _ _ _ _ _ _ _ _ _ _ _ _ _ _ _ _ X => so_iconst (n := 1) X (show decode code 947 = .ok (.iconst 1, 1) from by decide +kernel), ?_⟩
  refine List.forall_mem_cons.mpr ⟨fun _ _ _ _ _ _ _ _ _ _ _ _ _ _ _ _ _ _ X => so_goto (off := 4) (tgt := 952) X (show decode code 948 = .ok (.goto 4, 3) from by decide +kernel) (by decide), ?_⟩
  refine List.forall_mem_cons.mpr ⟨fun _ _ _ _ _ _ _ _ _ _ _ _ _ _ _ _ _ _ X => so_iconst (n := 0) X (show decode code 951 = .ok (.iconst 0, 1) from by decide +kernel), ?_⟩
  refine List.forall_mem_cons.mpr ⟨fun _ _ _ _ _ _ _ _ _ _ _ _ _ _ _ _ _ _ X => so_istore (k := 9) X (show decode code 952 = .ok (.istore 9, 2) from by decide +kernel), ?_⟩
  refine List.forall_mem_cons.mpr ⟨fun _ _ _ _ _ _ _ _ _ _ _ _ _ _ _ _ _ _ X => so_iconst (n := 0) X (show decode code 954 = .ok (.iconst 0, 1) from by decide +kernel), ?_⟩
  refine List.forall_mem_cons.mpr ⟨fun _ _ _ _ _ _ _ _ _ _ _ _ _ _ _ _ _ _ X => so_istore (k := 17) X (show decode code 955 = .ok (.istore 17, 2) from by decide +kernel), ?_⟩
  refine List.forall_mem_cons.mpr ⟨fun _ _ _ _ _ _ _ _ _ _ _ _ _ _ _ _ _ _ X => so_iload (k := 17) X (show decode code 957 = .ok (.iload 17, 2) from by decide +kernel), ?_⟩
  refine List.forall_mem_cons.mpr ⟨fun _ _ _ _ _ _ _ _ _ _ _ _ _ _ _ _ _ _ X => so_iload (k := 16) X (show decode code 959 = .ok (.iload 16, 2) from by decide +kernel), ?_⟩
  refine List.forall_mem_cons.mpr ⟨fun _ _ _ _ _ _ _ _ _ _ _ _ _ _ _ _ _ _ X => so_icmp_ge (off := 184) (tgt := 1145) X (show decode code 961 = .ok (.if_icmp .ge 184, 3) from by decide +kernel) (by decide), ?_⟩
  refine List.forall_mem_cons.mpr ⟨fun _ _ _ _ _ _ _ _ _ _ _ _ _ _ _ _ _ _ X => so_iload (k := 9) X (show decode code 964 = .ok (.iload 9, 2) from by decide +kernel), ?_⟩
  refine List.forall_mem_cons.mpr ⟨fun _ _ _ _ _ _ _ _ _ _ _ _ _ _ _ _ _ _ X => so_if_eq (off := 179) (tgt := 1145) X (show decode code 966 = .ok (.ifCond .eq 179, 3) from by decide +kernel) (by decide), ?_⟩
  refine List.forall_mem_cons.mpr ⟨fun _ _ _ _ _ _ _ _ _ _ _ _ _ _ _ _ _ _ X => so_aload_n (k := 1) X (show decode code 969 = .ok (.aload_n 1, 1) from by decide +kernel), ?_⟩
  refine List.forall_mem_cons.mpr ⟨fun _ _ _ _ _ _ _ _ _ _ _ _ _ _ _ _ _ _ X => so_iconst (n := 0) X (show decode code 970 = .ok (.iconst 0, 1) from by decide +kernel), ?_⟩
  refine List.forall_mem_cons.mpr ⟨fun _ _ _ _ _ _ _ _ _ _ _ _ _ _ _ _ _ _ X => so_bipush (n := 97) X (by decide +kernel) (show decode code 971 = .ok (.bipush 97, 2) from by decide +kernel), ?_⟩
  refine List.forall_mem_cons.mpr ⟨fun _ _ _ _ _ _ _ _ _ _ _ _ _ _ _ _ _ _ X => so_iload (k := 12) X (show decode code 973 = .ok (.iload 12, 2) from by decide +kernel), ?_⟩
  refine List.forall_mem_cons.mpr ⟨fun _ _ _ _ _ _ _ _ _ _ _ _ _ _ _ _ _ _ X => so_iload (k := 17) X (show decode code 975 = .ok (.iload 17, 2) from by decide +kernel), ?_⟩
  refine List.forall_mem_cons.mpr ⟨fun _ _ _ _ _ _ _ _ _ _ _ _ _ _ _ _ _ _ X => so_bipush (n := 7) X (by decide +kernel) (show decode code 977 = .ok (.bipush 7, 2) from by decide +kernel), ?_⟩
  refine List.forall_mem_cons.mpr ⟨fun _ _ _ _ _ _ _ _ _ _ _ _ _ _ _ _ _ _ X => so_iadd X (show decode code 979 = .ok (.iadd, 1) from by decide +kernel), ?_⟩
  refine List.forall_mem_cons.mpr ⟨fun _ _ _ _ _ _ _ _ _ _ _ _ _ _ _ _ _ _ X => so_ishr X (show decode code 980 = .ok (.ishr, 1) from by decide +kernel), ?_⟩
  refine List.forall_mem_cons.mpr ⟨fun _ _ _ _ _ _ _ _ _ _ _ _ _ _ _ _ _ _ X => so_iconst (n := 3) X (show decode code 981 = .ok (.iconst 3, 1) from by decide +kernel), ?_⟩
  refine List.forall_mem_cons.mpr ⟨fun _ _ _ _ _ _ _ _ _ _ _ _ _ _ _ _ _ _ X => so_irem X (show decode code 982 = .ok (.irem, 1) from by decide +kernel), ?_⟩
  refine List.forall_mem_cons.mpr ⟨fun _ _ _ _ _ _ _ _ _ _ _ _ _ _ _ _ _ _ X => so_iadd X (show decode code 983 = .ok (.iadd, 1) from by decide +kernel), ?_⟩
  refine List.forall_mem_cons.mpr ⟨fun _ _ _ _ _ _ _ _ _ _ _ _ _ _ _ _ _ _ X => so_iconst (n := 0) X (show decode code 984 = .ok (.iconst 0, 1) from by decide +kernel), ?_⟩
  refine List.forall_mem_cons.mpr ⟨fun _ _ _ _ _ _ _ _ _ _ _ _ _ _ _ _ _ _ X => so_callSW (i := 92) (n := 4) X rfl wq_476 wq_477 wq_18 wd_92 wc_92 (show decode code 985 = .ok (.invokestatic 70, 3) from by decide +kernel), ?_⟩
  refine List.forall_mem_cons.mpr ⟨fun _ _ _ _ _ _ _ _ _ _ _ _ _ _ _ _ _ _ X => so_iconst (n := 1) X (show decode code 988 = .ok (.iconst 1, 1) from by decide +kernel), ?_⟩
  refine List.forall_mem_cons.mpr ⟨fun _ _ _ _ _ _ _ _ _ _ _ _ _ _ _ _ _ _ X => so_icmp_ne (off := 30) (tgt := 1019) X (show decode code 989 = .ok (.if_icmp .ne 30, 3) from by decide +kernel) (by decide), ?_⟩
  refine List.forall_mem_cons.mpr ⟨fun _ _ _ _ _ _ _ _ _ _ _ _ _ _ _ _ _ _ X => so_aload_n (k := 1) X (show decode code 992 = .ok (.aload_n 1, 1) from by decide +kernel), ?_⟩
  refine List.forall_mem_cons.mpr ⟨fun _ _ _ _ _ _ _ _ _ _ _ _ _ _ _ _ _ _ X => so_iconst (n := 0) X (show decode code 993 = .ok (.iconst 0, 1) from by decide +kernel), ?_⟩
  refine List.forall_mem_cons.mpr ⟨fun _ _ _ _ _ _ _ _ _ _ _ _ _ _ _ _ _ _ X => so_bipush (n := 97) X (by decide +kernel) (show decode code 994 = .ok (.bipush 97, 2) from by decide +kernel), ?_⟩
  refine List.forall_mem_cons.mpr ⟨fun _ _ _ _ _ _ _ _ _ _ _ _ _ _ _ _ _ _ X => so_iload (k := 12) X (show decode code 996 = .ok (.iload 12, 2) from by decide +kernel), ?_⟩
  refine List.forall_mem_cons.mpr ⟨fun _ _ _ _ _ _ _ _ _ _ _ _ _ _ _ _ _ _ X => so_iload (k := 17) X (show decode code 998 = .ok (.iload 17, 2) from by decide +kernel), ?_⟩
  refine List.forall_mem_cons.mpr ⟨fun _ _ _ _ _ _ _ _ _ _ _ _ _ _ _ _ _ _ X => so_bipush (n := 11) X (by decide +kernel) (show decode code 1000 = .ok (.bipush 11, 2) from by decide +kernel), ?_⟩
  refine List.forall_mem_cons.mpr ⟨fun _ _ _ _ _ _ _ _ _ _ _ _ _ _ _ _ _ _ X => so_iadd X (show decode code 1002 = .ok (.iadd, 1) from by decide +kernel), ?_⟩
  refine List.forall_mem_cons.mpr ⟨fun _ _ _ _ _ _ _ _ _ _ _ _ _ _ _ _ _ _ X => so_ishr X (show decode code 1003 = .ok (.ishr, 1) from by decide +kernel), ?_⟩
  refine List.forall_mem_cons.mpr ⟨fun _ _ _ _ _ _ _ _ _ _ _ _ _ _ _ _ _ _ X => so_iconst (n := 3) X (show decode code 1004 = .ok (.iconst 3, 1) from by decide +kernel), ?_⟩
  refine List.forall_mem_cons.mpr ⟨fun _ _ _ _ _ _ _ _ _ _ _ _ _ _ _ _ _ _ X => so_irem X (show decode code 1005 = .ok (.irem, 1) from by decide +kernel), ?_⟩
  refine List.forall_mem_cons.mpr ⟨fun _ _ _ _ _ _ _ _ _ _ _ _ _ _ _ _ _ _ X => so_iadd X (show decode code 1006 = .ok (.iadd, 1) from by decide +kernel), ?_⟩
  refine List.forall_mem_cons.mpr ⟨fun _ _ _ _ _ _ _ _ _ _ _ _ _ _ _ _ _ _ X => so_iconst (n := 0) X (show decode code 1007 = .ok (.iconst 0, 1) from by decide +kernel), ?_⟩
  refine List.forall_mem_cons.mpr ⟨fun _ _ _ _ _ _ _ _ _ _ _ _ _ _ _ _ _ _ X => so_callSW (i := 92) (n := 4) X rfl wq_476 wq_477 wq_18 wd_92 wc_92 (show decode code 1008 = .ok (.invokestatic 70, 3) from by decide +kernel), ?_⟩
  refine List.forall_mem_cons.mpr ⟨fun _ _ _ _ _ _ _ _ _ _ _ _ _ _ _ _ _ _ X => so_iconst (n := 2) X (show decode code 1011 = .ok (.iconst 2, 1) from by decide +kernel), ?_⟩
  refine List.forall_mem_cons.mpr ⟨fun _ _ _ _ _ _ _ _ _ _ _ _ _ _ _ _ _ _ X => so_icmp_ne (off := 7) (tgt := 1019) X (show decode code 1012 = .ok (.if_icmp .ne 7, 3) from by decide +kernel) (by decide), ?_⟩
  refine List.forall_mem_cons.mpr ⟨fun _ _ _ _ _ _ _ _ _ _ _ _ _ _ _ _ _ _ X => so_iconst (n := 1) X (show decode code 1015 = .ok (.iconst 1, 1) from by decide +kernel), ?_⟩
  refine List.forall_mem_cons.mpr ⟨fun _ _ _ _ _ _ _ _ _ _ _ _ _ _ _ _ _ _ X => so_goto (off := 4) (tgt := 1020) X (show decode code 1016 = .ok (.goto 4, 3) from by decide +kernel) (by decide), ?_⟩
  refine List.forall_mem_cons.mpr ⟨fun _ _ _ _ _ _ _ _ _ _ _ _ _ _ _ _ _ _ X => so_iconst (n := 0) X (show decode code 1019 = .ok (.iconst 0, 1) from by decide +kernel), ?_⟩
  refine List.forall_mem_cons.mpr ⟨fun _ _ _ _ _ _ _ _ _ _ _ _ _ _ _ _ _ _ X => so_istore (k := 9) X (show decode code 1020 = .ok (.istore 9, 2) from by decide +kernel), ?_⟩
  refine List.forall_mem_cons.mpr ⟨fun _ _ _ _ _ _ _ _ _ _ _ _ _ _ _ _ _ _ X => so_iconst (n := 0) X (show decode code 1022 = .ok (.iconst 0, 1) from by decide +kernel), ?_⟩
  refine List.forall_mem_cons.mpr ⟨fun _ _ _ _ _ _ _ _ _ _ _ _ _ _ _ _ _ _ X => so_istore (k := 18) X (show decode code 1023 = .ok (.istore 18, 2) from by decide +kernel), ?_⟩
  refine List.forall_mem_cons.mpr ⟨fun _ _ _ _ _ _ _ _ _ _ _ _ _ _ _ _ _ _ X => so_iload (k := 18) X (show decode code 1025 = .ok (.iload 18, 2) from by decide +kernel), ?_⟩
  refine List.forall_mem_cons.mpr ⟨fun _ _ _ _ _ _ _ _ _ _ _ _ _ _ _ _ _ _ X => so_iconst (n := 5) X (show decode code 1027 = .ok (.iconst 5, 1) from by decide +kernel), ?_⟩
  refine List.forall_mem_cons.mpr ⟨fun _ _ _ _ _ _ _ _ _ _ _ _ _ _ _ _ _ _ X => so_icmp_ge (off := 80) (tgt := 1108) X (show decode code 1028 = .ok (.if_icmp .ge 80, 3) from by decide +kernel) (by decide), ?_⟩
  refine List.forall_mem_cons.mpr ⟨fun _ _ _ _ _ _ _ _ _ _ _ _ _ _ _ _ _ _ X => so_iload (k := 9) X (show decode code 1031 = .ok (.iload 9, 2) from by decide +kernel), ?_⟩
  refine List.forall_mem_cons.mpr ⟨fun _ _ _ _ _ _ _ _ _ _ _ _ _ _ _ _ _ _ X => so_if_eq (off := 75) (tgt := 1108) X (show decode code 1033 = .ok (.ifCond .eq 75, 3) from by decide +kernel) (by decide), ?_⟩
  refine List.forall_mem_cons.mpr ⟨fun _ _ _ _ _ _ _ _ _ _ _ _ _ _ _ _ _ _ X => so_aload_n (k := 2) X (show decode code 1036 = .ok (.aload_n 2, 1) from by decide +kernel), ?_⟩
  refine List.forall_mem_cons.mpr ⟨fun _ _ _ _ _ _ _ _ _ _ _ _ _ _ _ _ _ _ X => so_iconst (n := 5) X (show decode code 1037 = .ok (.iconst 5, 1) from by decide +kernel), ?_⟩
  refine List.forall_mem_cons.mpr ⟨fun _ _ _ _ _ _ _ _ _ _ _ _ _ _ _ _ _ _ X => so_iload (k := 17) X (show decode code 1038 = .ok (.iload 17, 2) from by decide +kernel), ?_⟩
  refine List.forall_mem_cons.mpr ⟨fun _ _ _ _ _ _ _ _ _ _ _ _ _ _ _ _ _ _ X => so_imul X (show decode code 1040 = .ok (.imul, 1) from by decide +kernel), ?_⟩
  refine List.forall_mem_cons.mpr ⟨fun _ _ _ _ _ _ _ _ _ _ _ _ _ _ _ _ _ _ X => so_iload (k := 18) X (show decode code 1041 = .ok (.iload 18, 2) from by decide +kernel), ?_⟩
  refine List.forall_mem_cons.mpr ⟨fun _ _ _ _ _ _ _ _ _ _ _ _ _ _ _ _ _ _ X => so_iadd X (show decode code 1043 = .ok (.iadd, 1) from by decide +kernel), ?_⟩
  refine List.forall_mem_cons.mpr ⟨fun _ _ _ _ _ _ _ _ _ _ _ _ _ _ _ _ _ _ X => so_aload_n (k := 1) X (show decode code 1044 = .ok (.aload_n 1, 1) from by decide +kernel), ?_⟩
  refine List.forall_mem_cons.mpr ⟨fun _ _ _ _ _ _ _ _ _ _ _ _ _ _ _ _ _ _ X => so_bipush (n := 6) X (by decide +kernel) (show decode code 1045 = .ok (.bipush 6, 2) from by decide +kernel), ?_⟩
  refine List.forall_mem_cons.mpr ⟨fun _ _ _ _ _ _ _ _ _ _ _ _ _ _ _ _ _ _ X => so_iload (k := 18) X (show decode code 1047 = .ok (.iload 18, 2) from by decide +kernel), ?_⟩
  refine List.forall_mem_cons.mpr ⟨fun _ _ _ _ _ _ _ _ _ _ _ _ _ _ _ _ _ _ X => so_iconst (n := 0) X (show decode code 1049 = .ok (.iconst 0, 1) from by decide +kernel), ?_⟩
  refine List.forall_mem_cons.mpr ⟨fun _ _ _ _ _ _ _ _ _ _ _ _ _ _ _ _ _ _ X => so_callSW (i := 92) (n := 4) X rfl wq_476 wq_477 wq_18 wd_92 wc_92 (show decode code 1050 = .ok (.invokestatic 70, 3) from by decide +kernel), ?_⟩
  refine List.forall_mem_cons.mpr ⟨fun _ _ _ _ _ _ _ _ _ _ _ _ _ _ _ _ _ _ X => so_iast X (show decode code 1053 = .ok (.iastore, 1) from by decide +kernel), ?_⟩
  refine List.forall_mem_cons.mpr ⟨fun _ _ _ _ _ _ _ _ _ _ _ _ _ _ _ _ _ _ X => so_aload_n (k := 2) X (show decode code 1054 = .ok (.aload_n 2, 1) from by decide +kernel), ?_⟩
  refine List.forall_mem_cons.mpr ⟨fun _ _ _ _ _ _ _ _ _ _ _ _ _ _ _ _ _ _ X => so_iconst (n := 5) X (show decode code 1055 = .ok (.iconst 5, 1) from by decide +kernel), ?_⟩
  refine List.forall_mem_cons.mpr ⟨fun _ _ _ _ _ _ _ _ _ _ _ _ _ _ _ _ _ _ X => so_iload (k := 17) X (show decode code 1056 = .ok (.iload 17, 2) from by decide +kernel), ?_⟩
  refine List.forall_mem_cons.mpr ⟨fun _ _ _ _ _ _ _ _ _ _ _ _ _ _ _ _ _ _ X => so_imul X (show decode code 1058 = .ok (.imul, 1) from by decide +kernel), ?_⟩
  refine List.forall_mem_cons.mpr ⟨fun _ _ _ _ _ _ _ _ _ _ _ _ _ _ _ _ _ _ X => so_iload (k := 18) X (show decode code 1059 = .ok (.iload 18, 2) from by decide +kernel), ?_⟩
  refine List.forall_mem_cons.mpr ⟨fun _ _ _ _ _ _ _ _ _ _ _ _ _ _ _ _ _ _ X => so_iadd X (show decode code 1061 = .ok (.iadd, 1) from by decide +kernel), ?_⟩
  refine List.forall_mem_cons.mpr ⟨fun _ _ _ _ _ _ _ _ _ _ _ _ _ _ _ _ _ _ X => so_iald X (show decode code 1062 = .ok (.iaload, 1) from by decide +kernel), ?_⟩
  refine List.forall_mem_cons.mpr ⟨fun _ _ _ _ _ _ _ _ _ _ _ _ _ _ _ _ _ _ X => so_if_le (off := 36) (tgt := 1099) X (show decode code 1063 = .ok (.ifCond .le 36, 3) from by decide +kernel) (by decide), ?_⟩
  refine List.forall_mem_cons.mpr ⟨fun _ _ _ _ _ _ _ _ _ _ _ _ _ _ _ _ _ _ X => so_aload_n (k := 2) X (show decode code 1066 = .ok (.aload_n 2, 1) from by decide +kernel), ?_⟩
  refine List.forall_mem_cons.mpr ⟨fun _ _ _ _ _ _ _ _ _ _ _ _ _ _ _ _ _ _ X => so_iconst (n := 5) X (show decode code 1067 = .ok (.iconst 5, 1) from by decide +kernel), ?_⟩
  refine List.forall_mem_cons.mpr ⟨fun _ _ _ _ _ _ _ _ _ _ _ _ _ _ _ _ _ _ X => so_iload (k := 17) X (show decode code 1068 = .ok (.iload 17, 2) from by decide +kernel), ?_⟩
  refine List.forall_mem_cons.mpr ⟨fun _ _ _ _ _ _ _ _ _ _ _ _ _ _ _ _ _ _ X => so_imul X (show decode code 1070 = .ok (.imul, 1) from by decide +kernel), ?_⟩
  refine List.forall_mem_cons.mpr ⟨fun _ _ _ _ _ _ _ _ _ _ _ _ _ _ _ _ _ _ X => so_iload (k := 18) X (show decode code 1071 = .ok (.iload 18, 2) from by decide +kernel), ?_⟩
  refine List.forall_mem_cons.mpr ⟨fun _ _ _ _ _ _ _ _ _ _ _ _ _ _ _ _ _ _ X => so_iadd X (show decode code 1073 = .ok (.iadd, 1) from by decide +kernel), ?_⟩
  refine List.forall_mem_cons.mpr ⟨fun _ _ _ _ _ _ _ _ _ _ _ _ _ _ _ _ _ _ X => so_iald X (show decode code 1074 = .ok (.iaload, 1) from by decide +kernel), ?_⟩
  refine List.forall_mem_cons.mpr ⟨fun _ _ _ _ _ _ _ _ _ _ _ _ _ _ _ _ _ _ X => so_bipush (n := 10) X (by decide +kernel) (show decode code 1075 = .ok (.bipush 10, 2) from by decide +kernel), ?_⟩
  refine List.forall_mem_cons.mpr ⟨fun _ _ _ _ _ _ _ _ _ _ _ _ _ _ _ _ _ _ X => so_icmp_ge (off := 22) (tgt := 1099) X (show decode code 1077 = .ok (.if_icmp .ge 22, 3) from by decide +kernel) (by decide), ?_⟩
  refine List.forall_mem_cons.mpr ⟨fun _ _ _ _ _ _ _ _ _ _ _ _ _ _ _ _ _ _ X => so_aload_n (k := 2) X (show decode code 1080 = .ok (.aload_n 2, 1) from by decide +kernel), ?_⟩
  refine List.forall_mem_cons.mpr ⟨fun _ _ _ _ _ _ _ _ _ _ _ _ _ _ _ _ _ _ X => so_iconst (n := 5) X (show decode code 1081 = .ok (.iconst 5, 1) from by decide +kernel), ?_⟩
  refine List.forall_mem_cons.mpr ⟨fun _ _ _ _ _ _ _ _ _ _ _ _ _ _ _ _ _ _ X => so_iload (k := 17) X (show decode code 1082 = .ok (.iload 17, 2) from by decide +kernel), ?_⟩
  refine List.forall_mem_cons.mpr ⟨fun _ _ _ _ _ _ _ _ _ _ _ _ _ _ _ _ _ _ X => so_imul X (show decode code 1084 = .ok (.imul, 1) from by decide +kernel), ?_⟩
  refine List.forall_mem_cons.mpr ⟨fun _ _ _ _ _ _ _ _ _ _ _ _ _ _ _ _ _ _ X => so_iload (k := 18) X (show decode code 1085 = .ok (.iload 18, 2) from by decide +kernel), ?_⟩
  refine List.forall_mem_cons.mpr ⟨fun _ _ _ _ _ _ _ _ _ _ _ _ _ _ _ _ _ _ X => so_iadd X (show decode code 1087 = .ok (.iadd, 1) from by decide +kernel), ?_⟩
  refine List.forall_mem_cons.mpr ⟨fun _ _ _ _ _ _ _ _ _ _ _ _ _ _ _ _ _ _ X => so_iald X (show decode code 1088 = .ok (.iaload, 1) from by decide +kernel), ?_⟩
  refine List.forall_mem_cons.mpr ⟨fun _ _ _ _ _ _ _ _ _ _ _ _ _ _ _ _ _ _ X => so_iconst (n := 2) X (show decode code 1089 = .ok (.iconst 2, 1) from by decide +kernel), ?_⟩
  refine List.forall_mem_cons.mpr ⟨fun _ _ _ _ _ _ _ _ _ _ _ _ _ _ _ _ _ _ X => so_irem X (show decode code 1090 = .ok (.irem, 1) from by decide +kernel), ?_⟩
  refine List.forall_mem_cons.mpr ⟨fun _ _ _ _ _ _ _ _ _ _ _ _ _ _ _ _ _ _ X => so_iconst (n := 1) X (show decode code 1091 = .ok (.iconst 1, 1) from by decide +kernel), ?_⟩
  refine List.forall_mem_cons.mpr ⟨fun _ _ _ _ _ _ _ _ _ _ _ _ _ _ _ _ _ _ X => so_icmp_ne (off := 7) (tgt := 1099) X (show decode code 1092 = .ok (.if_icmp .ne 7, 3) from by decide +kernel) (by decide), ?_⟩
  refine List.forall_mem_cons.mpr ⟨fun _ _ _ _ _ _ _ _ _ _ _ _ _ _ _ _ _ _ X => so_iconst (n := 1) X (show decode code 1095 = .ok (.iconst 1, 1) from by decide +kernel), ?_⟩
  refine List.forall_mem_cons.mpr ⟨fun _ _ _ _ _ _ _ _ _ _ _ _ _ _ _ _ _ _ X => so_goto (off := 4) (tgt := 1100) X (show decode code 1096 = .ok (.goto 4, 3) from by decide +kernel) (by decide), ?_⟩
  refine List.forall_mem_cons.mpr ⟨fun _ _ _ _ _ _ _ _ _ _ _ _ _ _ _ _ _ _ X => so_iconst (n := 0) X (show decode code 1099 = .ok (.iconst 0, 1) from by decide +kernel), ?_⟩
  refine List.forall_mem_cons.mpr ⟨fun _ _ _ _ _ _ _ _ _ _ _ _ _ _ _ _ _ _ X => so_istore (k := 9) X (show decode code 1100 = .ok (.istore 9, 2) from by decide +kernel), ?_⟩
  refine List.forall_mem_cons.mpr ⟨fun _ _ _ _ _ _ _ _ _ _ _ _ _ _ _ _ _ _ X => so_iinc (k := 18) (n := 1) X (show decode code 1102 = .ok (.iinc 18 1, 3) from by decide +kernel), ?_⟩
  refine List.forall_mem_cons.mpr ⟨fun _ _ _ _ _ _ _ _ _ _ _ _ _ _ _ _ _ _ X => so_goto (off := -80) (tgt := 1025) X (show decode code 1105 = .ok (.goto (-80), 3) from by decide +kernel) (by decide), ?_⟩
  refine List.forall_mem_cons.mpr ⟨fun _ _ _ _ _ _ _ _ _ _ _ _ _ _ _ _ _ _ X => so_iload (k := 9) X (show decode code 1108 = .ok (.iload 9, 2) from by decide +kernel), ?_⟩
  refine List.forall_mem_cons.mpr ⟨fun _ _ _ _ _ _ _ _ _ _ _ _ _ _ _ _ _ _ X => so_if_eq (off := 21) (tgt := 1131) X (show decode code 1110 = .ok (.ifCond .eq 21, 3) from by decide +kernel) (by decide), ?_⟩
  refine List.forall_mem_cons.mpr ⟨fun _ _ _ _ _ _ _ _ _ _ _ _ _ _ _ _ _ _ X => so_aload_n (k := 1) X (show decode code 1113 = .ok (.aload_n 1, 1) from by decide +kernel), ?_⟩
  refine List.forall_mem_cons.mpr ⟨fun _ _ _ _ _ _ _ _ _ _ _ _ _ _ _ _ _ _ X => so_iconst (n := 4) X (show decode code 1114 = .ok (.iconst 4, 1) from by decide +kernel), ?_⟩
  refine List.forall_mem_cons.mpr ⟨fun _ _ _ _ _ _ _ _ _ _ _ _ _ _ _ _ _ _ X => so_iconst (n := 0) X (show decode code 1115 = .ok (.iconst 0, 1) from by decide +kernel), ?_⟩
  refine List.forall_mem_cons.mpr ⟨fun _ _ _ _ _ _ _ _ _ _ _ _ _ _ _ _ _ _ X => so_iconst (n := 0) X (show decode code 1116 = .ok (.iconst 0, 1) from by decide +kernel), ?_⟩
  refine List.forall_mem_cons.mpr ⟨fun _ _ _ _ _ _ _ _ _ _ _ _ _ _ _ _ _ _ X => so_callSW (i := 92) (n := 4) X rfl wq_476 wq_477 wq_18 wd_92 wc_92 (show decode code 1117 = .ok (.invokestatic 70, 3) from by decide +kernel), ?_⟩
  refine List.forall_mem_cons.mpr ⟨fun _ _ _ _ _ _ _ _ _ _ _ _ _ _ _ _ _ _ X => so_iload (k := 17) X (show decode code 1120 = .ok (.iload 17, 2) from by decide +kernel), ?_⟩
  refine List.forall_mem_cons.mpr ⟨fun _ _ _ _ _ _ _ _ _ _ _ _ _ _ _ _ _ _ X => so_iconst (n := 1) X (show decode code 1122 = .ok (.iconst 1, 1) from by decide +kernel), ?_⟩
  refine List.forall_mem_cons.mpr ⟨fun _ _ _ _ _ _ _ _ _ _ _ _ _ _ _ _ _ _ X => so_iadd X (show decode code 1123 = .ok (.iadd, 1) from by decide +kernel), ?_⟩
  refine List.forall_mem_cons.mpr ⟨fun _ _ _ _ _ _ _ _ _ _ _ _ _ _ _ _ _ _ X => so_icmp_ne (off := 7) (tgt := 1131) X (show decode code 1124 = .ok (.if_icmp .ne 7, 3) from by decide +kernel) (by decide), ?_⟩
  refine List.forall_mem_cons.mpr ⟨fun _ _ _ _ _ _ _ _ _ _ _ _ _ _ _ _ _ _ X => so_iconst (n := 1) X (show decode code 1127 = .ok (.iconst 1, 1) from by decide +kernel), ?_⟩
  refine List.forall_mem_cons.mpr ⟨fun _ _ _ _ _ _ _ _ _ _ _ _ _ _ _ _ _ _ X => so_goto (off := 4) (tgt := 1132) X (show decode code 1128 = .ok (.goto 4, 3) from by decide +kernel) (by decide), ?_⟩
  refine List.forall_mem_cons.mpr ⟨fun _ _ _ _ _ _ _ _ _ _ _ _ _ _ _ _ _ _ X => so_iconst (n := 0) X (show decode code 1131 = .ok (.iconst 0, 1) from by decide +kernel), ?_⟩
  refine List.forall_mem_cons.mpr ⟨fun _ _ _ _ _ _ _ _ _ _ _ _ _ _ _ _ _ _ X => so_istore (k := 9) X (show decode code 1132 = .ok (.istore 9, 2) from by decide +kernel), ?_⟩
  refine List.forall_mem_cons.mpr ⟨fun _ _ _ _ _ _ _ _ _ _ _ _ _ _ _ _ _ _ X => so_aload_n (k := 3) X (show decode code 1134 = .ok (.aload_n 3, 1) from by decide +kernel), ?_⟩
  refine List.forall_mem_cons.mpr ⟨fun _ _ _ _ _ _ _ _ _ _ _ _ _ _ _ _ _ _ X => so_iload (k := 17) X (show decode code 1135 = .ok (.iload 17, 2) from by decide +kernel), ?_⟩
  refine List.forall_mem_cons.mpr ⟨fun _ _ _ _ _ _ _ _ _ _ _ _ _ _ _ _ _ _ X => so_iconst (n := (-1)) X (show decode code 1137 = .ok (.iconst (-1), 1) from by decide +kernel), ?_⟩
  refine List.forall_mem_cons.mpr ⟨fun _ _ _ _ _ _ _ _ _ _ _ _ _ _ _ _ _ _ X => so_iast X (show decode code 1138 = .ok (.iastore, 1) from by decide +kernel), ?_⟩
  refine List.forall_mem_cons.mpr ⟨fun _ _ _ _ _ _ _ _ _ _ _ _ _ _ _ _ _ _ X => so_iinc (k := 17) (n := 1) X (show decode code 1139 = .ok (.iinc 17 1, 3) from by decide +kernel), ?_⟩
  refine List.forall_mem_cons.mpr ⟨fun _ _ _ _ _ _ _ _ _ _ _ _ _ _ _ _ _ _ X => so_goto (off := -185) (tgt := 957) X (show decode code 1142 = .ok (.goto (-185), 3) from by decide +kernel) (by decide), ?_⟩
  refine List.forall_mem_cons.mpr ⟨fun _ _ _ _ _ _ _ _ _ _ _ _ _ _ _ _ _ _ X => so_iload (k := 16) X (show decode code 1145 = .ok (.iload 16, 2) from by decide +kernel), ?_⟩
  refine List.forall_mem_cons.mpr ⟨fun _ _ _ _ _ _ _ _ _ _ _ _ _ _ _ _ _ _ X => so_istore (k := 4) X (show decode code 1147 = .ok (.istore 4, 2) from by decide +kernel), ?_⟩
  refine List.forall_mem_cons.mpr ⟨fun _ _ _ _ _ _ _ _ _ _ _ _ _ _ _ _ _ _ X => so_iconst (n := 0) X (show decode code 1149 = .ok (.iconst 0, 1) from by decide +kernel), ?_⟩
  refine List.forall_mem_cons.mpr ⟨fun _ _ _ _ _ _ _ _ _ _ _ _ _ _ _ _ _ _ X => so_istore (k := 7) X (show decode code 1150 = .ok (.istore 7, 2) from by decide +kernel), ?_⟩
  refine List.forall_mem_cons.mpr ⟨fun _ _ _ _ _ _ _ _ _ _ _ _ _ _ _ _ _ _ X => so_iload (k := 12) X (show decode code 1152 = .ok (.iload 12, 2) from by decide +kernel), ?_⟩
  refine List.forall_mem_cons.mpr ⟨fun _ _ _ _ _ _ _ _ _ _ _ _ _ _ _ _ _ _ X => so_bipush (n := 8) X (by decide +kernel) (show decode code 1154 = .ok (.bipush 8, 2) from by decide +kernel), ?_⟩
  refine List.forall_mem_cons.mpr ⟨fun _ _ _ _ _ _ _ _ _ _ _ _ _ _ _ _ _ _ X => so_ishr X (show decode code 1156 = .ok (.ishr, 1) from by decide +kernel), ?_⟩
  refine List.forall_mem_cons.mpr ⟨fun _ _ _ _ _ _ _ _ _ _ _ _ _ _ _ _ _ _ X => so_iconst (n := 1) X (show decode code 1157 = .ok (.iconst 1, 1) from by decide +kernel), ?_⟩
  refine List.forall_mem_cons.mpr ⟨fun _ _ _ _ _ _ _ _ _ _ _ _ _ _ _ _ _ _ X => so_iandm (y0 := 1) (M := 2) X (fun _ => m_1) (show decode code 1158 = .ok (.iand, 1) from by decide +kernel), ?_⟩
  refine List.forall_mem_cons.mpr ⟨fun _ _ _ _ _ _ _ _ _ _ _ _ _ _ _ _ _ _ X => so_if_ne (off := 38) (tgt := 1197) X (show decode code 1159 = .ok (.ifCond .ne 38, 3) from by decide +kernel) (by decide), ?_⟩
  refine List.forall_mem_cons.mpr ⟨fun _ _ _ _ _ _ _ _ _ _ _ _ _ _ _ _ _ _ X => so_aload_n (k := 3) X (show decode code 1162 = .ok (.aload_n 3, 1) from by decide +kernel), ?_⟩
  refine List.forall_mem_cons.mpr ⟨fun _ _ _ _ _ _ _ _ _ _ _ _ _ _ _ _ _ _ X => so_iload (k := 16) X (show decode code 1163 = .ok (.iload 16, 2) from by decide +kernel), ?_⟩
  refine List.forall_mem_cons.mpr ⟨fun _ _ _ _ _ _ _ _ _ _ _ _ _ _ _ _ _ _ X => so_iconst (n := 1) X (show decode code 1165 = .ok (.iconst 1, 1) from by decide +kernel), ?_⟩
  refine List.forall_mem_cons.mpr ⟨fun _ _ _ _ _ _ _ _ _ _ _ _ _ _ _ _ _ _ X => so_isub X (show decode code 1166 = .ok (.isub, 1) from by decide +kernel), ?_⟩
  refine List.forall_mem_cons.mpr ⟨fun _ _ _ _ _ _ _ _ _ _ _ _ _ _ _ _ _ _ X => so_iload (k := 15) X (show decode code 1167 = .ok (.iload 15, 2) from by decide +kernel), ?_⟩
  refine List.forall_mem_cons.mpr ⟨fun _ _ _ _ _ _ _ _ _ _ _ _ _ _ _ _ _ _ X => so_iast X (show decode code 1169 = .ok (.iastore, 1) from by decide +kernel), ?_⟩
  refine List.forall_mem_cons.mpr ⟨fun _ _ _ _ _ _ _ _ _ _ _ _ _ _ _ _ _ _ X => so_iload (k := 9) X (show decode code 1170 = .ok (.iload 9, 2) from by decide +kernel), ?_⟩
  refine List.forall_mem_cons.mpr ⟨fun _ _ _ _ _ _ _ _ _ _ _ _ _ _ _ _ _ _ X => so_if_eq (off := 22) (tgt := 1194) X (show decode code 1172 = .ok (.ifCond .eq 22, 3) from by decide +kernel) (by decide), ?_⟩
  refine List.forall_mem_cons.mpr ⟨fun _ _ _ _ _ _ _ _ _ _ _ _ _ _ _ _ _ _ X => so_aload_n (k := 1) X (show decode code 1175 = .ok (.aload_n 1, 1) from by decide +kernel), ?_⟩
  refine List.forall_mem_cons.mpr ⟨fun _ _ _ _ _ _ _ _ _ _ _ _ _ _ _ _ _ _ X => so_iconst (n := 5) X (show decode code 1176 = .ok (.iconst 5, 1) from by decide +kernel), ?_⟩
  refine List.forall_mem_cons.mpr ⟨fun _ _ _ _ _ _ _ _ _ _ _ _ _ _ _ _ _ _ X => so_iload (k := 16) X (show decode code 1177 = .ok (.iload 16, 2) from by decide +kernel), ?_⟩
  refine List.forall_mem_cons.mpr ⟨fun _ _ _ _ _ _ _ _ _ _ _ _ _ _ _ _ _ _ X => so_iconst (n := 1) X (show decode code 1179 = .ok (.iconst 1, 1) from by decide +kernel), ?_⟩
  refine List.forall_mem_cons.mpr ⟨fun _ _ _ _ _ _ _ _ _ _ _ _ _ _ _ _ _ _ X => so_isub X (show decode code 1180 = .ok (.isub, 1) from by decide +kernel), ?_⟩
  refine List.forall_mem_cons.mpr ⟨fun _ _ _ _ _ _ _ _ _ _ _ _ _ _ _ _ _ _ X => so_iload (k := 15) X (show decode code 1181 = .ok (.iload 15, 2) from by decide +kernel), ?_⟩
  refine List.forall_mem_cons.mpr ⟨fun _ _ _ _ _ _ _ _ _ _ _ _ _ _ _ _ _ _ X => so_callSW (i := 92) (n := 4) X rfl wq_476 wq_477 wq_18 wd_92 wc_92 (show decode code 1183 = .ok (.invokestatic 70, 3) from by decide +kernel), ?_⟩
  refine List.forall_mem_cons.mpr ⟨fun _ _ _ _ _ _ _ _ _ _ _ _ _ _ _ _ _ _ X => so_iconst (n := (-1)) X (show decode code 1186 = .ok (.iconst (-1), 1) from by decide +kernel), ?_⟩
  refine List.forall_mem_cons.mpr ⟨fun _ _ _ _ _ _ _ _ _ _ _ _ _ _ _ _ _ _ X => so_icmp_ne (off := 7) (tgt := 1194) X (show decode code 1187 = .ok (.if_icmp .ne 7, 3) from by decide +kernel) (by decide), ?_⟩
  refine List.forall_mem_cons.mpr ⟨fun _ _ _ _ _ _ _ _ _ _ _ _ _ _ _ _ _ _ X => so_iconst (n := 1) X (show decode code 1190 = .ok (.iconst 1, 1) from by decide +kernel), ?_⟩
  refine List.forall_mem_cons.mpr ⟨fun _ _ _ _ _ _ _ _ _ _ _ _ _ _ _ _ _ _ X => so_goto (off := 4) (tgt := 1195) X (show decode code 1191 = .ok (.goto 4, 3) from by decide +kernel) (by decide), ?_⟩
  refine List.forall_mem_cons.mpr ⟨fun _ _ _ _ _ _ _ _ _ _ _ _ _ _ _ _ _ _ X => so_iconst (n := 0) X (show decode code 1194 = .ok (.iconst 0, 1) from by decide +kernel), ?_⟩
  refine List.forall_mem_cons.mpr ⟨fun _ _ _ _ _ _ _ _ _ _ _ _ _ _ _ _ _ _ X => so_istore (k := 9) X (show decode code 1195 = .ok (.istore 9, 2) from by decide +kernel), ?_⟩
  refine List.forall_mem_cons.mpr ⟨fun _ _ _ _ _ _ _ _ _ _ _ _ _ _ _ _ _ _ X => so_aload_n (k := 1) X (show decode code 1197 = .ok (.aload_n 1, 1) from by decide +kernel), ?_⟩
  refine List.forall_mem_cons.mpr ⟨fun _ _ _ _ _ _ _ _ _ _ _ _ _ _ _ _ _ _ X => so_callV (i := 74) (cn := 8) (n := 0) X rfl rfl rfl wq_460 wq_461 wq_462 wq_19 wd_74 wc_74 (show decode code 1198 = .ok (.invokevirtual 89, 3) from by decide +kernel), ?_⟩
  refine List.forall_mem_cons.mpr ⟨fun _ _ _ _ _ _ _ _ _ _ _ _ _ _ _ _ _ _ X => so_istore (k := 17) X (show decode code 1201 = .ok (.istore 17, 2) from by decide +kernel), ?_⟩
  refine List.forall_mem_cons.mpr ⟨fun _ _ _ _ _ _ _ _ _ _ _ _ _ _ _ _ _ _ X => so_aload_n (k := 1) X (show decode code 1203 = .ok (.aload_n 1, 1) from by decide +kernel), ?_⟩
  refine List.forall_mem_cons.mpr ⟨fun _ _ _ _ _ _ _ _ _ _ _ _ _ _ _ _ _ _ X => so_iconst (n := 0) X (show decode code 1204 = .ok (.iconst 0, 1) from by decide +kernel), ?_⟩
  refine List.forall_mem_cons.mpr ⟨fun _ _ _ _ _ _ _ _ _ _ _ _ _ _ _ _ _ _ X => so_callV (i := 73) (cn := 8) (n := 1) X rfl rfl rfl wq_240 wq_241 wq_242 wq_19 wd_73 wc_73 (show decode code 1205 = .ok (.invokevirtual 66, 3) from by decide +kernel), ?_⟩
  refine List.forall_mem_cons.mpr ⟨fun _ _ _ _ _ _ _ _ _ _ _ _ _ _ _ _ _ _ X => so_lstore (k := 18) X (show decode code 1208 = .ok (.lstore 18, 2) from by decide +kernel), ?_⟩
  refine List.forall_mem_cons.mpr ⟨fun _ _ _ _ _ _ _ _ _ _ _ _ _ _ _ _ _ _ X => so_iload (k := 9) X (show decode code 1210 = .ok (.iload 9, 2) from by decide +kernel), ?_⟩
  refine List.forall_mem_cons.mpr ⟨fun _ _ _ _ _ _ _ _ _ _ _ _ _ _ _ _ _ _ X => so_if_eq (off := 50) (tgt := 1262) X (show decode code 1212 = .ok (.ifCond .eq 50, 3) from by decide +kernel) (by decide), ?_⟩
  refine List.forall_mem_cons.mpr ⟨fun _ _ _ _ _ _ _ _ _ _ _ _ _ _ _ _ _ _ X => so_aload_n (k := 1) X (show decode code 1215 = .ok (.aload_n 1, 1) from by decide +kernel), ?_⟩
  refine List.forall_mem_cons.mpr ⟨fun _ _ _ _ _ _ _ _ _ _ _ _ _ _ _ _ _ _ X => so_iload (k := 4) X (show decode code 1216 = .ok (.iload 4, 2) from by decide +kernel), ?_⟩
  refine List.forall_mem_cons.mpr ⟨fun _ _ _ _ _ _ _ _ _ _ _ _ _ _ _ _ _ _ X => so_aload_n (k := 2) X (show decode code 1218 = .ok (.aload_n 2, 1) from by decide +kernel), ?_⟩
  refine List.forall_mem_cons.mpr ⟨fun _ _ _ _ _ _ _ _ _ _ _ _ _ _ _ _ _ _ X => so_aload_n (k := 3) X (show decode code 1219 = .ok (.aload_n 3, 1) from by decide +kernel), ?_⟩
  refine List.forall_mem_cons.mpr ⟨fun _ _ _ _ _ _ _ _ _ _ _ _ _ _ _ _ _ _ X => so_iload (k := 12) X (show decode code 1220 = .ok (.iload 12, 2) from by decide +kernel), ?_⟩
  refine List.forall_mem_cons.mpr ⟨fun _ _ _ _ _ _ _ _ _ _ _ _ _ _ _ _ _ _ X => so_bipush (n := 7) X (by decide +kernel) (show decode code 1222 = .ok (.bipush 7, 2) from by decide +kernel), ?_⟩
  refine List.forall_mem_cons.mpr ⟨fun _ _ _ _ _ _ _ _ _ _ _ _ _ _ _ _ _ _ X => so_iandm (y0 := 7) (M := 8) X (fun _ => m_7) (show decode code 1224 = .ok (.iand, 1) from by decide +kernel), ?_⟩
  refine List.forall_mem_cons.mpr ⟨fun _ _ _ _ _ _ _ _ _ _ _ _ _ _ _ _ _ _ X => so_callS (i := 94) (n := 5) X rfl wq_685 wq_686 wq_18 wd_94 wc_94 (show decode code 1225 = .ok (.invokestatic 92, 3) from by decide +kernel), ?_⟩
  refine List.forall_mem_cons.mpr ⟨fun _ _ _ _ _ _ _ _ _ _ _ _ _ _ _ _ _ _ X => so_if_eq (off := 34) (tgt := 1262) X (show decode code 1228 = .ok (.ifCond .eq 34, 3) from by decide +kernel) (by decide), ?_⟩
  refine List.forall_mem_cons.mpr ⟨fun _ _ _ _ _ _ _ _ _ _ _ _ _ _ _ _ _ _ X => so_iload (k := 17) X (show decode code 1231 = .ok (.iload 17, 2) from by decide +kernel), ?_⟩
  refine List.forall_mem_cons.mpr ⟨fun _ _ _ _ _ _ _ _ _ _ _ _ _ _ _ _ _ _ X => so_bipush (n := 30) X (by decide +kernel) (show decode code 1233 = .ok (.bipush 30, 2) from by decide +kernel), ?_⟩
  refine List.forall_mem_cons.mpr ⟨fun _ _ _ _ _ _ _ _ _ _ _ _ _ _ _ _ _ _ X => so_icmp_lt (off := 27) (tgt := 1262) X (show decode code 1235 = .ok (.if_icmp .lt 27, 3) from by decide +kernel) (by decide), ?_⟩
  refine List.forall_mem_cons.mpr ⟨fun _ _ _ _ _ _ _ _ _ _ _ _ _ _ _ _ _ _ X => so_iload (k := 17) X (show decode code 1238 = .ok (.iload 17, 2) from by decide +kernel), ?_⟩
  refine List.forall_mem_cons.mpr ⟨fun _ _ _ _ _ _ _ _ _ _ _ _ _ _ _ _ _ _ X => so_bipush (n := 60) X (by decide +kernel) (show decode code 1240 = .ok (.bipush 60, 2) from by decide +kernel), ?_⟩
  refine List.forall_mem_cons.mpr ⟨fun _ _ _ _ _ _ _ _ _ _ _ _ _ _ _ _ _ _ X => so_icmp_gt (off := 20) (tgt := 1262) X (show decode code 1242 = .ok (.if_icmp .gt 20, 3) from by decide +kernel) (by decide), ?_⟩
  refine List.forall_mem_cons.mpr ⟨fun _ _ _ _ _ _ _ _ _ _ _ _ _ _ _ _ _ _ X => so_lload (k := 18) X (show decode code 1245 = .ok (.lload 18, 2) from by decide +kernel), ?_⟩
  refine List.forall_mem_cons.mpr ⟨fun _ _ _ _ _ _ _ _ _ _ _ _ _ _ _ _ _ _ X => so_iload (k := 17) X (show decode code 1247 = .ok (.iload 17, 2) from by decide +kernel), ?_⟩
  refine List.forall_mem_cons.mpr ⟨fun _ _ _ _ _ _ _ _ _ _ _ _ _ _ _ _ _ _ X => so_lshl X (show decode code 1249 = .ok (.lshl, 1) from by decide +kernel), ?_⟩
  refine List.forall_mem_cons.mpr ⟨fun _ _ _ _ _ _ _ _ _ _ _ _ _ _ _ _ _ _ X => so_bipush (n := 60) X (by decide +kernel) (show decode code 1250 = .ok (.bipush 60, 2) from by decide +kernel), ?_⟩
  refine List.forall_mem_cons.mpr ⟨fun _ _ _ _ _ _ _ _ _ _ _ _ _ _ _ _ _ _ X => so_lshr X (show decode code 1252 = .ok (.lshr, 1) from by decide +kernel), ?_⟩
  refine List.forall_mem_cons.mpr ⟨fun _ _ _ _ _ _ _ _ _ _ _ _ _ _ _ _ _ _ X => so_lconst (n := 1) X (show decode code 1253 = .ok (.lconst 1, 1) from by decide +kernel), ?_⟩
  refine List.forall_mem_cons.mpr ⟨fun _ _ _ _ _ _ _ _ _ _ _ _ _ _ _ _ _ _ X => so_lcmp X (show decode code 1254 = .ok (.lcmp, 1) from by decide +kernel), ?_⟩
  refine List.forall_mem_cons.mpr ⟨fun _ _ _ _ _ _ _ _ _ _ _ _ _ _ _ _ _ _ X => so_if_ne (off := 7) (tgt := 1262) X (show decode code 1255 = .ok (.ifCond .ne 7, 3) from by decide +kernel) (by decide), ?_⟩
  refine List.forall_mem_cons.mpr ⟨fun _ _ _ _ _ _ _ _ _ _ _ _ _ _ _ _ _ _ X => so_iconst (n := 1) X (show decode code 1258 = .ok (.iconst 1, 1) from by decide +kernel), ?_⟩
  refine List.forall_mem_cons.mpr ⟨fun _ _ _ _ _ _ _ _ _ _ _ _ _ _ _ _ _ _ X => so_goto (off := 4) (tgt := 1263) X (show decode code 1259 = .ok (.goto 4, 3) from by decide +kernel) (by decide), ?_⟩
  refine List.forall_mem_cons.mpr ⟨fun _ _ _ _ _ _ _ _ _ _ _ _ _ _ _ _ _ _ X => so_iconst (n := 0) X (show decode code 1262 = .ok (.iconst 0, 1) from by decide +kernel), ?_⟩
  refine List.forall_mem_cons.mpr ⟨fun _ _ _ _ _ _ _ _ _ _ _ _ _ _ _ _ _ _ X => so_istore (k := 9) X (show decode code 1263 = .ok (.istore 9, 2) from by decide +kernel), ?_⟩
  refine List.forall_mem_cons.mpr ⟨fun _ _ _ _ _ _ _ _ _ _ _ _ _ _ _ _ _ _ X => so_goto (off := 6) (tgt := 1271) X (show decode code 1265 = .ok (.goto 6, 3) from by decide +kernel) (by decide), ?_⟩
  refine List.forall_mem_cons.mpr ⟨fun _ _ _ _ _ _ _ _ _ _ _ _ _ _ _ _ _ _ X => so_iconst (n := 1) X (show decode code 1268 = .ok (.iconst 1, 1) from by decide +kernel), ?_⟩
  refine List.forall_mem_cons.mpr ⟨fun _ _ _ _ _ _ _ _ _ _ _ _ _ _ _ _ _ _ X => so_istore (k := 7) X (show decode code 1269 = .ok (.istore 7, 2) from by decide +kernel), ?_⟩
  refine List.forall_mem_cons.mpr ⟨fun _ _ _ _ _ _ _ _ _ _ _ _ _ _ _ _ _ _ X => so_iinc (k := 11) (n := 1) X (show decode code 1271 = .ok (.iinc 11 1, 3) from by decide +kernel), ?_⟩
  refine List.forall_mem_cons.mpr ⟨fun _ _ _ _ _ _ _ _ _ _ _ _ _ _ _ _ _ _ X => so_goto (off := -1204) (tgt := 70) X (show decode code 1274 = .ok (.goto (-1204), 3) from by decide +kernel) (by decide), ?_⟩
  refine List.forall_mem_cons.mpr ⟨fun _ _ _ _ _ _ _ _ _ _ _ _ _ _ _ _ _ _ X => so_iload (k := 9) X (show decode code 1277 = .ok (.iload 9, 2) from by decide +kernel), ?_⟩
  refine List.forall_mem_cons.mpr ⟨fun _ _ _ _ _ _ _ _ _ _ _ _ _ _ _ _ _ _ X => so_zret X rfl (show decode code 1279 = .ok (.ireturn, 1) from by decide +kernel), ?_⟩
  exact fun _ h => absurd h List.not_mem_nil
