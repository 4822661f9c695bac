/-! ===== the words that the methods use, by their places; the methods are sound, op by op: written by a program ===== -/
theorem wq_objinit : Cond.code Lib.objectInit ⟨#[0xb1]⟩ 1 none ∈ w_all := w_in 58 (by decide +kernel) (by decide +kernel)
theorem wq_min : Cond.code Lib.Math.min.name Lib.Math.min.code 2 (some .int) ∈ w_all := w_in 530 (by decide +kernel) (by decide +kernel)
theorem ws_X0_countPaths : Cond.selects "Trellistag$AllPaths" ⟨"Trellistag$AllPaths", "countPaths", "()I"⟩ ⟨"Trellistag$AllPaths", "countPaths", "()I"⟩ ∈ w_all := w_in 7 (by decide +kernel) (by decide +kernel)
theorem ws_X0_goOn : Cond.selects "Trellistag$AllPaths" ⟨"Trellistag$AllPaths", "goOn", "()V"⟩ ⟨"Trellistag$AllPaths", "goOn", "()V"⟩ ∈ w_all := w_in 11 (by decide +kernel) (by decide +kernel)
theorem ws_X0_startWalk : Cond.selects "Trellistag$AllPaths" ⟨"Trellistag$AllPaths", "startWalk", "()V"⟩ ⟨"Trellistag$AllPaths", "startWalk", "()V"⟩ ∈ w_all := w_in 8 (by decide +kernel) (by decide +kernel)
theorem ws_X0_weighFrom : Cond.selects "Trellistag$AllPaths" ⟨"Trellistag$AllPaths", "weighFrom", "(I)V"⟩ ⟨"Trellistag$AllPaths", "weighFrom", "(I)V"⟩ ∈ w_all := w_in 9 (by decide +kernel) (by decide +kernel)
theorem ws_X10_goes : Cond.selects "TrellistagModel" ⟨"TrellistagModel", "goes", "(II)V"⟩ ⟨"TrellistagModel", "goes", "(II)V"⟩ ∈ w_all := w_in 25 (by decide +kernel) (by decide +kernel)
theorem ws_X10_holds : Cond.selects "TrellistagModel" ⟨"TrellistagModel", "holds", "(I)Z"⟩ ⟨"TrellistagModel", "holds", "(I)Z"⟩ ∈ w_all := w_in 18 (by decide +kernel) (by decide +kernel)
theorem ws_X10_isPlace : Cond.selects "TrellistagModel" ⟨"TrellistagModel", "isPlace", "(I)Z"⟩ ⟨"TrellistagModel", "isPlace", "(I)Z"⟩ ∈ w_all := w_in 20 (by decide +kernel) (by decide +kernel)
theorem ws_X10_lays : Cond.selects "TrellistagModel" ⟨"TrellistagModel", "lays", "()V"⟩ ⟨"TrellistagModel", "lays", "()V"⟩ ∈ w_all := w_in 26 (by decide +kernel) (by decide +kernel)
theorem ws_X10_often : Cond.selects "TrellistagModel" ⟨"TrellistagModel", "often", "(III)I"⟩ ⟨"TrellistagModel", "often", "(III)I"⟩ ∈ w_all := w_in 22 (by decide +kernel) (by decide +kernel)
theorem ws_X10_onPath : Cond.selects "TrellistagModel" ⟨"TrellistagModel", "onPath", "(II)I"⟩ ⟨"TrellistagModel", "onPath", "(II)I"⟩ ∈ w_all := w_in 24 (by decide +kernel) (by decide +kernel)
theorem ws_X10_paths : Cond.selects "TrellistagModel" ⟨"TrellistagModel", "paths", "()I"⟩ ⟨"TrellistagModel", "paths", "()I"⟩ ∈ w_all := w_in 27 (by decide +kernel) (by decide +kernel)
theorem ws_X10_shareOf : Cond.selects "TrellistagModel" ⟨"TrellistagModel", "shareOf", "(II)I"⟩ ⟨"TrellistagModel", "shareOf", "(II)I"⟩ ∈ w_all := w_in 31 (by decide +kernel) (by decide +kernel)
theorem ws_X10_tagAt : Cond.selects "TrellistagModel" ⟨"TrellistagModel", "tagAt", "(II)I"⟩ ⟨"TrellistagModel", "tagAt", "(II)I"⟩ ∈ w_all := w_in 29 (by decide +kernel) (by decide +kernel)
theorem ws_X10_takes : Cond.selects "TrellistagModel" ⟨"TrellistagModel", "takes", "()I"⟩ ⟨"TrellistagModel", "takes", "()I"⟩ ∈ w_all := w_in 19 (by decide +kernel) (by decide +kernel)
theorem ws_X10_weightFor : Cond.selects "TrellistagModel" ⟨"TrellistagModel", "weightFor", "(II)I"⟩ ⟨"TrellistagModel", "weightFor", "(II)I"⟩ ∈ w_all := w_in 21 (by decide +kernel) (by decide +kernel)
theorem ws_X10_weightOf : Cond.selects "TrellistagModel" ⟨"TrellistagModel", "weightOf", "(II)I"⟩ ⟨"TrellistagModel", "weightOf", "(II)I"⟩ ∈ w_all := w_in 23 (by decide +kernel) (by decide +kernel)
theorem ws_X10_weightOfPath : Cond.selects "TrellistagModel" ⟨"TrellistagModel", "weightOfPath", "(I)J"⟩ ⟨"TrellistagModel", "weightOfPath", "(I)J"⟩ ∈ w_all := w_in 28 (by decide +kernel) (by decide +kernel)
theorem ws_X10_weightOfRank : Cond.selects "TrellistagModel" ⟨"TrellistagModel", "weightOfRank", "(I)J"⟩ ⟨"TrellistagModel", "weightOfRank", "(I)J"⟩ ∈ w_all := w_in 30 (by decide +kernel) (by decide +kernel)
theorem ws_X1_change : Cond.selects "Trellistag$Corpus" ⟨"Trellistag$Corpus", "change", "(LTrellistag$Text;I)V"⟩ ⟨"Trellistag$Corpus", "change", "(LTrellistag$Text;I)V"⟩ ∈ w_all := w_in 2 (by decide +kernel) (by decide +kernel)
theorem ws_X2_ruleOut : Cond.selects "Trellistag$Lattice" ⟨"Trellistag$Lattice", "ruleOut", "(I)V"⟩ ⟨"Trellistag$Lattice", "ruleOut", "(I)V"⟩ ∈ w_all := w_in 6 (by decide +kernel) (by decide +kernel)
theorem ws_X4_insert : Cond.selects "Trellistag$Ranking" ⟨"Trellistag$Ranking", "insert", "(IJI)V"⟩ ⟨"Trellistag$Ranking", "insert", "(IJI)V"⟩ ∈ w_all := w_in 10 (by decide +kernel) (by decide +kernel)
theorem ws_X7_rankUpTo : Cond.selects "Trellistag$Trellis" ⟨"Trellistag$Trellis", "rankUpTo", "(II)V"⟩ ⟨"Trellistag$Trellis", "rankUpTo", "(II)V"⟩ ∈ w_all := w_in 12 (by decide +kernel) (by decide +kernel)
theorem ws_X7_rankingAt : Cond.selects "Trellistag$Trellis" ⟨"Trellistag$Trellis", "rankingAt", "(II)LTrellistag$Ranking;"⟩ ⟨"Trellistag$Trellis", "rankingAt", "(II)LTrellistag$Ranking;"⟩ ∈ w_all := w_in 13 (by decide +kernel) (by decide +kernel)
theorem ws_X7_sumAhead : Cond.selects "Trellistag$Trellis" ⟨"Trellistag$Trellis", "sumAhead", "(II)J"⟩ ⟨"Trellistag$Trellis", "sumAhead", "(II)J"⟩ ∈ w_all := w_in 16 (by decide +kernel) (by decide +kernel)
theorem ws_X7_sumBehind : Cond.selects "Trellistag$Trellis" ⟨"Trellistag$Trellis", "sumBehind", "(II)J"⟩ ⟨"Trellistag$Trellis", "sumBehind", "(II)J"⟩ ∈ w_all := w_in 17 (by decide +kernel) (by decide +kernel)
theorem ws_X9_rankPaths : Cond.selects "Trellistag" ⟨"Trellistag", "rankPaths", "(LTrellistag$PathFinder;)V"⟩ ⟨"Trellistag", "rankPaths", "(LTrellistag$PathFinder;)V"⟩ ∈ w_all := w_in 5 (by decide +kernel) (by decide +kernel)
theorem ws_X9_requirePlace : Cond.selects "Trellistag" ⟨"Trellistag", "requirePlace", "(I)V"⟩ ⟨"Trellistag", "requirePlace", "(I)V"⟩ ∈ w_all := w_in 3 (by decide +kernel) (by decide +kernel)
theorem ws_X9_requireSentence : Cond.selects "Trellistag" ⟨"Trellistag", "requireSentence", "()V"⟩ ⟨"Trellistag", "requireSentence", "()V"⟩ ∈ w_all := w_in 14 (by decide +kernel) (by decide +kernel)
theorem ws_X9_requireTyped : Cond.selects "Trellistag" ⟨"Trellistag", "requireTyped", "()V"⟩ ⟨"Trellistag", "requireTyped", "()V"⟩ ∈ w_all := w_in 1 (by decide +kernel) (by decide +kernel)
theorem ws_X9_shareOfTag : Cond.selects "Trellistag" ⟨"Trellistag", "shareOfTag", "(LTrellistag$PathFinder;II)I"⟩ ⟨"Trellistag", "shareOfTag", "(LTrellistag$PathFinder;II)I"⟩ ∈ w_all := w_in 15 (by decide +kernel) (by decide +kernel)
theorem ws_X9_tagOnPath : Cond.selects "Trellistag" ⟨"Trellistag", "tagOnPath", "(LTrellistag$PathFinder;II)I"⟩ ⟨"Trellistag", "tagOnPath", "(LTrellistag$PathFinder;II)I"⟩ ∈ w_all := w_in 4 (by decide +kernel) (by decide +kernel)
theorem we_0 : w_ex "Trellistag" 73 0 = true := by decide +kernel
theorem we_1 : w_ex "Trellistag" 84 1 = true := by decide +kernel
theorem we_2 : w_ex "Trellistag" 131 2 = true := by decide +kernel
theorem wc_0 {L : Nat} {xs : Nat → Int32} : wC (PP L xs 0) ∈ w_all := show wC md_0 ∈ w_all from w_in 202 (by decide +kernel) (by decide +kernel)
theorem wd_0 : (dY md_0).cls ≠ "java/lang/invoke/MethodHandle" ∧ (dY md_0).cls ≠ "java/lang/invoke/VarHandle" ∧ (parseMethodDescriptor (dY md_0).desc).map (fun d => d.parameters.length) = some 1 := ⟨by decide +kernel, by decide +kernel, by decide +kernel⟩
theorem wc_1 {L : Nat} {xs : Nat → Int32} : wC (PP L xs 1) ∈ w_all := show wC md_1 ∈ w_all from w_in 590 (by decide +kernel) (by decide +kernel)
theorem wd_1 : (dY md_1).cls ≠ "java/lang/invoke/MethodHandle" ∧ (dY md_1).cls ≠ "java/lang/invoke/VarHandle" ∧ (parseMethodDescriptor (dY md_1).desc).map (fun d => d.parameters.length) = some 1 := ⟨by decide +kernel, by decide +kernel, by decide +kernel⟩
theorem wc_2 {L : Nat} {xs : Nat → Int32} : wC (PP L xs 2) ∈ w_all := show wC md_2 ∈ w_all from w_in 705 (by decide +kernel) (by decide +kernel)
theorem wd_2 : (dY md_2).cls ≠ "java/lang/invoke/MethodHandle" ∧ (dY md_2).cls ≠ "java/lang/invoke/VarHandle" ∧ (parseMethodDescriptor (dY md_2).desc).map (fun d => d.parameters.length) = some 2 := ⟨by decide +kernel, by decide +kernel, by decide +kernel⟩
theorem wc_3 {L : Nat} {xs : Nat → Int32} : wC (PP L xs 3) ∈ w_all := show wC md_3 ∈ w_all from w_in 598 (by decide +kernel) (by decide +kernel)
theorem wd_3 : (dY md_3).cls ≠ "java/lang/invoke/MethodHandle" ∧ (dY md_3).cls ≠ "java/lang/invoke/VarHandle" ∧ (parseMethodDescriptor (dY md_3).desc).map (fun d => d.parameters.length) = some 0 := ⟨by decide +kernel, by decide +kernel, by decide +kernel⟩
theorem wc_4 {L : Nat} {xs : Nat → Int32} : wC (PP L xs 4) ∈ w_all := show wC md_4 ∈ w_all from w_in 602 (by decide +kernel) (by decide +kernel)
theorem wd_4 : (dY md_4).cls ≠ "java/lang/invoke/MethodHandle" ∧ (dY md_4).cls ≠ "java/lang/invoke/VarHandle" ∧ (parseMethodDescriptor (dY md_4).desc).map (fun d => d.parameters.length) = some 0 := ⟨by decide +kernel, by decide +kernel, by decide +kernel⟩
theorem wc_5 {L : Nat} {xs : Nat → Int32} : wC (PP L xs 5) ∈ w_all := show wC md_5 ∈ w_all from w_in 625 (by decide +kernel) (by decide +kernel)
theorem wd_5 : (dY md_5).cls ≠ "java/lang/invoke/MethodHandle" ∧ (dY md_5).cls ≠ "java/lang/invoke/VarHandle" ∧ (parseMethodDescriptor (dY md_5).desc).map (fun d => d.parameters.length) = some 0 := ⟨by decide +kernel, by decide +kernel, by decide +kernel⟩
theorem wc_6 {L : Nat} {xs : Nat → Int32} : wC (PP L xs 6) ∈ w_all := show wC md_6 ∈ w_all from w_in 606 (by decide +kernel) (by decide +kernel)
theorem wd_6 : (dY md_6).cls ≠ "java/lang/invoke/MethodHandle" ∧ (dY md_6).cls ≠ "java/lang/invoke/VarHandle" ∧ (parseMethodDescriptor (dY md_6).desc).map (fun d => d.parameters.length) = some 1 := ⟨by decide +kernel, by decide +kernel, by decide +kernel⟩
theorem wc_7 {L : Nat} {xs : Nat → Int32} : wC (PP L xs 7) ∈ w_all := show wC md_7 ∈ w_all from w_in 76 (by decide +kernel) (by decide +kernel)
theorem wd_7 : (dY md_7).cls ≠ "java/lang/invoke/MethodHandle" ∧ (dY md_7).cls ≠ "java/lang/invoke/VarHandle" ∧ (parseMethodDescriptor (dY md_7).desc).map (fun d => d.parameters.length) = some 0 := ⟨by decide +kernel, by decide +kernel, by decide +kernel⟩
theorem wc_8 {L : Nat} {xs : Nat → Int32} : wC (PP L xs 8) ∈ w_all := show wC md_8 ∈ w_all from w_in 406 (by decide +kernel) (by decide +kernel)
theorem wd_8 : (dY md_8).cls ≠ "java/lang/invoke/MethodHandle" ∧ (dY md_8).cls ≠ "java/lang/invoke/VarHandle" ∧ (parseMethodDescriptor (dY md_8).desc).map (fun d => d.parameters.length) = some 0 := ⟨by decide +kernel, by decide +kernel, by decide +kernel⟩
theorem wc_9 {L : Nat} {xs : Nat → Int32} : wC (PP L xs 9) ∈ w_all := show wC md_9 ∈ w_all from w_in 435 (by decide +kernel) (by decide +kernel)
theorem wd_9 : (dY md_9).cls ≠ "java/lang/invoke/MethodHandle" ∧ (dY md_9).cls ≠ "java/lang/invoke/VarHandle" ∧ (parseMethodDescriptor (dY md_9).desc).map (fun d => d.parameters.length) = some 0 := ⟨by decide +kernel, by decide +kernel, by decide +kernel⟩
theorem wc_10 {L : Nat} {xs : Nat → Int32} : wC (PP L xs 10) ∈ w_all := show wC md_10 ∈ w_all from w_in 459 (by decide +kernel) (by decide +kernel)
theorem wd_10 : (dY md_10).cls ≠ "java/lang/invoke/MethodHandle" ∧ (dY md_10).cls ≠ "java/lang/invoke/VarHandle" ∧ (parseMethodDescriptor (dY md_10).desc).map (fun d => d.parameters.length) = some 1 := ⟨by decide +kernel, by decide +kernel, by decide +kernel⟩
theorem wc_11 {L : Nat} {xs : Nat → Int32} : wC (PP L xs 11) ∈ w_all := show wC md_11 ∈ w_all from w_in 262 (by decide +kernel) (by decide +kernel)
theorem wd_11 : (dY md_11).cls ≠ "java/lang/invoke/MethodHandle" ∧ (dY md_11).cls ≠ "java/lang/invoke/VarHandle" ∧ (parseMethodDescriptor (dY md_11).desc).map (fun d => d.parameters.length) = some 0 := ⟨by decide +kernel, by decide +kernel, by decide +kernel⟩
theorem wc_12 {L : Nat} {xs : Nat → Int32} : wC (PP L xs 12) ∈ w_all := show wC md_12 ∈ w_all from w_in 440 (by decide +kernel) (by decide +kernel)
theorem wd_12 : (dY md_12).cls ≠ "java/lang/invoke/MethodHandle" ∧ (dY md_12).cls ≠ "java/lang/invoke/VarHandle" ∧ (parseMethodDescriptor (dY md_12).desc).map (fun d => d.parameters.length) = some 0 := ⟨by decide +kernel, by decide +kernel, by decide +kernel⟩
theorem wc_13 {L : Nat} {xs : Nat → Int32} : wC (PP L xs 13) ∈ w_all := show wC md_13 ∈ w_all from w_in 444 (by decide +kernel) (by decide +kernel)
theorem wd_13 : (dY md_13).cls ≠ "java/lang/invoke/MethodHandle" ∧ (dY md_13).cls ≠ "java/lang/invoke/VarHandle" ∧ (parseMethodDescriptor (dY md_13).desc).map (fun d => d.parameters.length) = some 2 := ⟨by decide +kernel, by decide +kernel, by decide +kernel⟩
theorem wc_14 {L : Nat} {xs : Nat → Int32} : wC (PP L xs 14) ∈ w_all := show wC md_14 ∈ w_all from w_in 448 (by decide +kernel) (by decide +kernel)
theorem wd_14 : (dY md_14).cls ≠ "java/lang/invoke/MethodHandle" ∧ (dY md_14).cls ≠ "java/lang/invoke/VarHandle" ∧ (parseMethodDescriptor (dY md_14).desc).map (fun d => d.parameters.length) = some 2 := ⟨by decide +kernel, by decide +kernel, by decide +kernel⟩
theorem wc_15 {L : Nat} {xs : Nat → Int32} : wC (PP L xs 15) ∈ w_all := show wC md_15 ∈ w_all from w_in 541 (by decide +kernel) (by decide +kernel)
theorem wd_15 : (dY md_15).cls ≠ "java/lang/invoke/MethodHandle" ∧ (dY md_15).cls ≠ "java/lang/invoke/VarHandle" ∧ (parseMethodDescriptor (dY md_15).desc).map (fun d => d.parameters.length) = some 2 := ⟨by decide +kernel, by decide +kernel, by decide +kernel⟩
theorem wc_16 {L : Nat} {xs : Nat → Int32} : wC (PP L xs 16) ∈ w_all := show wC md_16 ∈ w_all from w_in 515 (by decide +kernel) (by decide +kernel)
theorem wd_16 : (dY md_16).cls ≠ "java/lang/invoke/MethodHandle" ∧ (dY md_16).cls ≠ "java/lang/invoke/VarHandle" ∧ (parseMethodDescriptor (dY md_16).desc).map (fun d => d.parameters.length) = some 2 := ⟨by decide +kernel, by decide +kernel, by decide +kernel⟩
theorem wc_17 {L : Nat} {xs : Nat → Int32} : wC (PP L xs 17) ∈ w_all := show wC md_17 ∈ w_all from w_in 527 (by decide +kernel) (by decide +kernel)
theorem wd_17 : (dY md_17).cls ≠ "java/lang/invoke/MethodHandle" ∧ (dY md_17).cls ≠ "java/lang/invoke/VarHandle" ∧ (parseMethodDescriptor (dY md_17).desc).map (fun d => d.parameters.length) = some 1 := ⟨by decide +kernel, by decide +kernel, by decide +kernel⟩
theorem wc_18 {L : Nat} {xs : Nat → Int32} : wC (PP L xs 18) ∈ w_all := show wC md_18 ∈ w_all from w_in 521 (by decide +kernel) (by decide +kernel)
theorem wd_18 : (dY md_18).cls ≠ "java/lang/invoke/MethodHandle" ∧ (dY md_18).cls ≠ "java/lang/invoke/VarHandle" ∧ (parseMethodDescriptor (dY md_18).desc).map (fun d => d.parameters.length) = some 4 := ⟨by decide +kernel, by decide +kernel, by decide +kernel⟩
theorem wc_19 {L : Nat} {xs : Nat → Int32} : wC (PP L xs 19) ∈ w_all := show wC md_19 ∈ w_all from w_in 524 (by decide +kernel) (by decide +kernel)
theorem wd_19 : (dY md_19).cls ≠ "java/lang/invoke/MethodHandle" ∧ (dY md_19).cls ≠ "java/lang/invoke/VarHandle" ∧ (parseMethodDescriptor (dY md_19).desc).map (fun d => d.parameters.length) = some 2 := ⟨by decide +kernel, by decide +kernel, by decide +kernel⟩
theorem wc_20 {L : Nat} {xs : Nat → Int32} : wC (PP L xs 20) ∈ w_all := show wC md_20 ∈ w_all from w_in 518 (by decide +kernel) (by decide +kernel)
theorem wd_20 : (dY md_20).cls ≠ "java/lang/invoke/MethodHandle" ∧ (dY md_20).cls ≠ "java/lang/invoke/VarHandle" ∧ (parseMethodDescriptor (dY md_20).desc).map (fun d => d.parameters.length) = some 1 := ⟨by decide +kernel, by decide +kernel, by decide +kernel⟩
theorem wc_21 {L : Nat} {xs : Nat → Int32} : wC (PP L xs 21) ∈ w_all := show wC md_21 ∈ w_all from w_in 140 (by decide +kernel) (by decide +kernel)
theorem wd_21 : (dY md_21).cls ≠ "java/lang/invoke/MethodHandle" ∧ (dY md_21).cls ≠ "java/lang/invoke/VarHandle" ∧ (parseMethodDescriptor (dY md_21).desc).map (fun d => d.parameters.length) = some 2 := ⟨by decide +kernel, by decide +kernel, by decide +kernel⟩
theorem wc_22 {L : Nat} {xs : Nat → Int32} : wC (PP L xs 22) ∈ w_all := show wC md_22 ∈ w_all from w_in 594 (by decide +kernel) (by decide +kernel)
theorem wd_22 : (dY md_22).cls ≠ "java/lang/invoke/MethodHandle" ∧ (dY md_22).cls ≠ "java/lang/invoke/VarHandle" ∧ (parseMethodDescriptor (dY md_22).desc).map (fun d => d.parameters.length) = some 0 := ⟨by decide +kernel, by decide +kernel, by decide +kernel⟩
theorem wc_23 {L : Nat} {xs : Nat → Int32} : wC (PP L xs 23) ∈ w_all := show wC md_23 ∈ w_all from w_in 565 (by decide +kernel) (by decide +kernel)
theorem wd_23 : (dY md_23).cls ≠ "java/lang/invoke/MethodHandle" ∧ (dY md_23).cls ≠ "java/lang/invoke/VarHandle" ∧ (parseMethodDescriptor (dY md_23).desc).map (fun d => d.parameters.length) = some 0 := ⟨by decide +kernel, by decide +kernel, by decide +kernel⟩
theorem wc_24 {L : Nat} {xs : Nat → Int32} : wC (PP L xs 24) ∈ w_all := show wC md_24 ∈ w_all from w_in 576 (by decide +kernel) (by decide +kernel)
theorem wd_24 : (dY md_24).cls ≠ "java/lang/invoke/MethodHandle" ∧ (dY md_24).cls ≠ "java/lang/invoke/VarHandle" ∧ (parseMethodDescriptor (dY md_24).desc).map (fun d => d.parameters.length) = some 1 := ⟨by decide +kernel, by decide +kernel, by decide +kernel⟩
theorem wc_25 {L : Nat} {xs : Nat → Int32} : wC (PP L xs 25) ∈ w_all := show wC md_25 ∈ w_all from w_in 610 (by decide +kernel) (by decide +kernel)
theorem wd_25 : (dY md_25).cls ≠ "java/lang/invoke/MethodHandle" ∧ (dY md_25).cls ≠ "java/lang/invoke/VarHandle" ∧ (parseMethodDescriptor (dY md_25).desc).map (fun d => d.parameters.length) = some 3 := ⟨by decide +kernel, by decide +kernel, by decide +kernel⟩
theorem wc_26 {L : Nat} {xs : Nat → Int32} : wC (PP L xs 26) ∈ w_all := show wC md_26 ∈ w_all from w_in 163 (by decide +kernel) (by decide +kernel)
theorem wd_26 : (dY md_26).cls ≠ "java/lang/invoke/MethodHandle" ∧ (dY md_26).cls ≠ "java/lang/invoke/VarHandle" ∧ (parseMethodDescriptor (dY md_26).desc).map (fun d => d.parameters.length) = some 0 := ⟨by decide +kernel, by decide +kernel, by decide +kernel⟩
theorem wc_27 {L : Nat} {xs : Nat → Int32} : wC (PP L xs 27) ∈ w_all := show wC md_27 ∈ w_all from w_in 172 (by decide +kernel) (by decide +kernel)
theorem wd_27 : (dY md_27).cls ≠ "java/lang/invoke/MethodHandle" ∧ (dY md_27).cls ≠ "java/lang/invoke/VarHandle" ∧ (parseMethodDescriptor (dY md_27).desc).map (fun d => d.parameters.length) = some 0 := ⟨by decide +kernel, by decide +kernel, by decide +kernel⟩
theorem wc_28 {L : Nat} {xs : Nat → Int32} : wC (PP L xs 28) ∈ w_all := show wC md_28 ∈ w_all from w_in 584 (by decide +kernel) (by decide +kernel)
theorem wd_28 : (dY md_28).cls ≠ "java/lang/invoke/MethodHandle" ∧ (dY md_28).cls ≠ "java/lang/invoke/VarHandle" ∧ (parseMethodDescriptor (dY md_28).desc).map (fun d => d.parameters.length) = some 0 := ⟨by decide +kernel, by decide +kernel, by decide +kernel⟩
theorem wc_29 {L : Nat} {xs : Nat → Int32} : wC (PP L xs 29) ∈ w_all := show wC md_29 ∈ w_all from w_in 617 (by decide +kernel) (by decide +kernel)
theorem wd_29 : (dY md_29).cls ≠ "java/lang/invoke/MethodHandle" ∧ (dY md_29).cls ≠ "java/lang/invoke/VarHandle" ∧ (parseMethodDescriptor (dY md_29).desc).map (fun d => d.parameters.length) = some 2 := ⟨by decide +kernel, by decide +kernel, by decide +kernel⟩
theorem wc_30 {L : Nat} {xs : Nat → Int32} : wC (PP L xs 30) ∈ w_all := show wC md_30 ∈ w_all from w_in 621 (by decide +kernel) (by decide +kernel)
theorem wd_30 : (dY md_30).cls ≠ "java/lang/invoke/MethodHandle" ∧ (dY md_30).cls ≠ "java/lang/invoke/VarHandle" ∧ (parseMethodDescriptor (dY md_30).desc).map (fun d => d.parameters.length) = some 3 := ⟨by decide +kernel, by decide +kernel, by decide +kernel⟩
theorem wc_31 {L : Nat} {xs : Nat → Int32} : wC (PP L xs 31) ∈ w_all := show wC md_31 ∈ w_all from w_in 650 (by decide +kernel) (by decide +kernel)
theorem wd_31 : (dY md_31).cls ≠ "java/lang/invoke/MethodHandle" ∧ (dY md_31).cls ≠ "java/lang/invoke/VarHandle" ∧ (parseMethodDescriptor (dY md_31).desc).map (fun d => d.parameters.length) = some 1 := ⟨by decide +kernel, by decide +kernel, by decide +kernel⟩
theorem wc_32 {L : Nat} {xs : Nat → Int32} : wC (PP L xs 32) ∈ w_all := show wC md_32 ∈ w_all from w_in 644 (by decide +kernel) (by decide +kernel)
theorem wd_32 : (dY md_32).cls ≠ "java/lang/invoke/MethodHandle" ∧ (dY md_32).cls ≠ "java/lang/invoke/VarHandle" ∧ (parseMethodDescriptor (dY md_32).desc).map (fun d => d.parameters.length) = some 3 := ⟨by decide +kernel, by decide +kernel, by decide +kernel⟩
theorem wc_33 {L : Nat} {xs : Nat → Int32} : wC (PP L xs 33) ∈ w_all := show wC md_33 ∈ w_all from w_in 677 (by decide +kernel) (by decide +kernel)
theorem wd_33 : (dY md_33).cls ≠ "java/lang/invoke/MethodHandle" ∧ (dY md_33).cls ≠ "java/lang/invoke/VarHandle" ∧ (parseMethodDescriptor (dY md_33).desc).map (fun d => d.parameters.length) = some 1 := ⟨by decide +kernel, by decide +kernel, by decide +kernel⟩
theorem wc_34 {L : Nat} {xs : Nat → Int32} : wC (PP L xs 34) ∈ w_all := show wC md_34 ∈ w_all from w_in 654 (by decide +kernel) (by decide +kernel)
theorem wd_34 : (dY md_34).cls ≠ "java/lang/invoke/MethodHandle" ∧ (dY md_34).cls ≠ "java/lang/invoke/VarHandle" ∧ (parseMethodDescriptor (dY md_34).desc).map (fun d => d.parameters.length) = some 2 := ⟨by decide +kernel, by decide +kernel, by decide +kernel⟩
theorem wc_35 {L : Nat} {xs : Nat → Int32} : wC (PP L xs 35) ∈ w_all := show wC md_35 ∈ w_all from w_in 613 (by decide +kernel) (by decide +kernel)
theorem wd_35 : (dY md_35).cls ≠ "java/lang/invoke/MethodHandle" ∧ (dY md_35).cls ≠ "java/lang/invoke/VarHandle" ∧ (parseMethodDescriptor (dY md_35).desc).map (fun d => d.parameters.length) = some 2 := ⟨by decide +kernel, by decide +kernel, by decide +kernel⟩
theorem wc_36 {L : Nat} {xs : Nat → Int32} : wC (PP L xs 36) ∈ w_all := show wC md_36 ∈ w_all from w_in 124 (by decide +kernel) (by decide +kernel)
theorem wd_36 : (dY md_36).cls ≠ "java/lang/invoke/MethodHandle" ∧ (dY md_36).cls ≠ "java/lang/invoke/VarHandle" ∧ (parseMethodDescriptor (dY md_36).desc).map (fun d => d.parameters.length) = some 0 := ⟨by decide +kernel, by decide +kernel, by decide +kernel⟩
theorem wc_37 {L : Nat} {xs : Nat → Int32} : wC (PP L xs 37) ∈ w_all := show wC md_37 ∈ w_all from w_in 492 (by decide +kernel) (by decide +kernel)
theorem wd_37 : (dY md_37).cls ≠ "java/lang/invoke/MethodHandle" ∧ (dY md_37).cls ≠ "java/lang/invoke/VarHandle" ∧ (parseMethodDescriptor (dY md_37).desc).map (fun d => d.parameters.length) = some 0 := ⟨by decide +kernel, by decide +kernel, by decide +kernel⟩
theorem wc_38 {L : Nat} {xs : Nat → Int32} : wC (PP L xs 38) ∈ w_all := show wC md_38 ∈ w_all from w_in 472 (by decide +kernel) (by decide +kernel)
theorem wd_38 : (dY md_38).cls ≠ "java/lang/invoke/MethodHandle" ∧ (dY md_38).cls ≠ "java/lang/invoke/VarHandle" ∧ (parseMethodDescriptor (dY md_38).desc).map (fun d => d.parameters.length) = some 0 := ⟨by decide +kernel, by decide +kernel, by decide +kernel⟩
theorem wc_39 {L : Nat} {xs : Nat → Int32} : wC (PP L xs 39) ∈ w_all := show wC md_39 ∈ w_all from w_in 477 (by decide +kernel) (by decide +kernel)
theorem wd_39 : (dY md_39).cls ≠ "java/lang/invoke/MethodHandle" ∧ (dY md_39).cls ≠ "java/lang/invoke/VarHandle" ∧ (parseMethodDescriptor (dY md_39).desc).map (fun d => d.parameters.length) = some 1 := ⟨by decide +kernel, by decide +kernel, by decide +kernel⟩
theorem wc_40 {L : Nat} {xs : Nat → Int32} : wC (PP L xs 40) ∈ w_all := show wC md_40 ∈ w_all from w_in 254 (by decide +kernel) (by decide +kernel)
theorem wd_40 : (dY md_40).cls ≠ "java/lang/invoke/MethodHandle" ∧ (dY md_40).cls ≠ "java/lang/invoke/VarHandle" ∧ (parseMethodDescriptor (dY md_40).desc).map (fun d => d.parameters.length) = some 0 := ⟨by decide +kernel, by decide +kernel, by decide +kernel⟩
theorem wc_41 {L : Nat} {xs : Nat → Int32} : wC (PP L xs 41) ∈ w_all := show wC md_41 ∈ w_all from w_in 571 (by decide +kernel) (by decide +kernel)
theorem wd_41 : (dY md_41).cls ≠ "java/lang/invoke/MethodHandle" ∧ (dY md_41).cls ≠ "java/lang/invoke/VarHandle" ∧ (parseMethodDescriptor (dY md_41).desc).map (fun d => d.parameters.length) = some 1 := ⟨by decide +kernel, by decide +kernel, by decide +kernel⟩
theorem wc_42 {L : Nat} {xs : Nat → Int32} : wC (PP L xs 42) ∈ w_all := show wC md_42 ∈ w_all from w_in 500 (by decide +kernel) (by decide +kernel)
theorem wd_42 : (dY md_42).cls ≠ "java/lang/invoke/MethodHandle" ∧ (dY md_42).cls ≠ "java/lang/invoke/VarHandle" ∧ (parseMethodDescriptor (dY md_42).desc).map (fun d => d.parameters.length) = some 2 := ⟨by decide +kernel, by decide +kernel, by decide +kernel⟩
theorem wc_43 {L : Nat} {xs : Nat → Int32} : wC (PP L xs 43) ∈ w_all := show wC md_43 ∈ w_all from w_in 580 (by decide +kernel) (by decide +kernel)
theorem wd_43 : (dY md_43).cls ≠ "java/lang/invoke/MethodHandle" ∧ (dY md_43).cls ≠ "java/lang/invoke/VarHandle" ∧ (parseMethodDescriptor (dY md_43).desc).map (fun d => d.parameters.length) = some 2 := ⟨by decide +kernel, by decide +kernel, by decide +kernel⟩
theorem wc_44 {L : Nat} {xs : Nat → Int32} : wC (PP L xs 44) ∈ w_all := show wC md_44 ∈ w_all from w_in 85 (by decide +kernel) (by decide +kernel)
theorem wd_44 : (dY md_44).cls ≠ "java/lang/invoke/MethodHandle" ∧ (dY md_44).cls ≠ "java/lang/invoke/VarHandle" ∧ (parseMethodDescriptor (dY md_44).desc).map (fun d => d.parameters.length) = some 0 := ⟨by decide +kernel, by decide +kernel, by decide +kernel⟩
theorem wc_45 {L : Nat} {xs : Nat → Int32} : wC (PP L xs 45) ∈ w_all := show wC md_45 ∈ w_all from w_in 430 (by decide +kernel) (by decide +kernel)
theorem wd_45 : (dY md_45).cls ≠ "java/lang/invoke/MethodHandle" ∧ (dY md_45).cls ≠ "java/lang/invoke/VarHandle" ∧ (parseMethodDescriptor (dY md_45).desc).map (fun d => d.parameters.length) = some 0 := ⟨by decide +kernel, by decide +kernel, by decide +kernel⟩
theorem wc_46 {L : Nat} {xs : Nat → Int32} : wC (PP L xs 46) ∈ w_all := show wC md_46 ∈ w_all from w_in 410 (by decide +kernel) (by decide +kernel)
theorem wd_46 : (dY md_46).cls ≠ "java/lang/invoke/MethodHandle" ∧ (dY md_46).cls ≠ "java/lang/invoke/VarHandle" ∧ (parseMethodDescriptor (dY md_46).desc).map (fun d => d.parameters.length) = some 0 := ⟨by decide +kernel, by decide +kernel, by decide +kernel⟩
theorem wc_47 {L : Nat} {xs : Nat → Int32} : wC (PP L xs 47) ∈ w_all := show wC md_47 ∈ w_all from w_in 419 (by decide +kernel) (by decide +kernel)
theorem wd_47 : (dY md_47).cls ≠ "java/lang/invoke/MethodHandle" ∧ (dY md_47).cls ≠ "java/lang/invoke/VarHandle" ∧ (parseMethodDescriptor (dY md_47).desc).map (fun d => d.parameters.length) = some 2 := ⟨by decide +kernel, by decide +kernel, by decide +kernel⟩
theorem wc_48 {L : Nat} {xs : Nat → Int32} : wC (PP L xs 48) ∈ w_all := show wC md_48 ∈ w_all from w_in 160 (by decide +kernel) (by decide +kernel)
theorem wd_48 : (dY md_48).cls ≠ "java/lang/invoke/MethodHandle" ∧ (dY md_48).cls ≠ "java/lang/invoke/VarHandle" ∧ (parseMethodDescriptor (dY md_48).desc).map (fun d => d.parameters.length) = some 1 := ⟨by decide +kernel, by decide +kernel, by decide +kernel⟩
theorem wc_49 {L : Nat} {xs : Nat → Int32} : wC (PP L xs 49) ∈ w_all := show wC md_49 ∈ w_all from w_in 628 (by decide +kernel) (by decide +kernel)
theorem wd_49 : (dY md_49).cls ≠ "java/lang/invoke/MethodHandle" ∧ (dY md_49).cls ≠ "java/lang/invoke/VarHandle" ∧ (parseMethodDescriptor (dY md_49).desc).map (fun d => d.parameters.length) = some 1 := ⟨by decide +kernel, by decide +kernel, by decide +kernel⟩
theorem wc_50 {L : Nat} {xs : Nat → Int32} : wC (PP L xs 50) ∈ w_all := show wC md_50 ∈ w_all from w_in 633 (by decide +kernel) (by decide +kernel)
theorem wd_50 : (dY md_50).cls ≠ "java/lang/invoke/MethodHandle" ∧ (dY md_50).cls ≠ "java/lang/invoke/VarHandle" ∧ (parseMethodDescriptor (dY md_50).desc).map (fun d => d.parameters.length) = some 2 := ⟨by decide +kernel, by decide +kernel, by decide +kernel⟩
theorem wc_51 {L : Nat} {xs : Nat → Int32} : wC (PP L xs 51) ∈ w_all := show wC md_51 ∈ w_all from w_in 637 (by decide +kernel) (by decide +kernel)
theorem wd_51 : (dY md_51).cls ≠ "java/lang/invoke/MethodHandle" ∧ (dY md_51).cls ≠ "java/lang/invoke/VarHandle" ∧ (parseMethodDescriptor (dY md_51).desc).map (fun d => d.parameters.length) = some 2 := ⟨by decide +kernel, by decide +kernel, by decide +kernel⟩
theorem wc_52 {L : Nat} {xs : Nat → Int32} : wC (PP L xs 52) ∈ w_all := show wC md_52 ∈ w_all from w_in 708 (by decide +kernel) (by decide +kernel)
theorem wd_52 : (dY md_52).cls ≠ "java/lang/invoke/MethodHandle" ∧ (dY md_52).cls ≠ "java/lang/invoke/VarHandle" ∧ (parseMethodDescriptor (dY md_52).desc).map (fun d => d.parameters.length) = some 2 := ⟨by decide +kernel, by decide +kernel, by decide +kernel⟩
theorem wc_53 {L : Nat} {xs : Nat → Int32} : wC (PP L xs 53) ∈ w_all := show wC md_53 ∈ w_all from w_in 712 (by decide +kernel) (by decide +kernel)
theorem wd_53 : (dY md_53).cls ≠ "java/lang/invoke/MethodHandle" ∧ (dY md_53).cls ≠ "java/lang/invoke/VarHandle" ∧ (parseMethodDescriptor (dY md_53).desc).map (fun d => d.parameters.length) = some 2 := ⟨by decide +kernel, by decide +kernel, by decide +kernel⟩
theorem wc_54 {L : Nat} {xs : Nat → Int32} : wC (PP L xs 54) ∈ w_all := show wC md_54 ∈ w_all from w_in 716 (by decide +kernel) (by decide +kernel)
theorem wd_54 : (dY md_54).cls ≠ "java/lang/invoke/MethodHandle" ∧ (dY md_54).cls ≠ "java/lang/invoke/VarHandle" ∧ (parseMethodDescriptor (dY md_54).desc).map (fun d => d.parameters.length) = some 2 := ⟨by decide +kernel, by decide +kernel, by decide +kernel⟩
theorem wc_55 {L : Nat} {xs : Nat → Int32} : wC (PP L xs 55) ∈ w_all := show wC md_55 ∈ w_all from w_in 63 (by decide +kernel) (by decide +kernel)
theorem wd_55 : (dY md_55).cls ≠ "java/lang/invoke/MethodHandle" ∧ (dY md_55).cls ≠ "java/lang/invoke/VarHandle" ∧ (parseMethodDescriptor (dY md_55).desc).map (fun d => d.parameters.length) = some 0 := ⟨by decide +kernel, by decide +kernel, by decide +kernel⟩
theorem wc_56 {L : Nat} {xs : Nat → Int32} : wC (PP L xs 56) ∈ w_all := show wC md_56 ∈ w_all from w_in 401 (by decide +kernel) (by decide +kernel)
theorem wd_56 : (dY md_56).cls ≠ "java/lang/invoke/MethodHandle" ∧ (dY md_56).cls ≠ "java/lang/invoke/VarHandle" ∧ (parseMethodDescriptor (dY md_56).desc).map (fun d => d.parameters.length) = some 0 := ⟨by decide +kernel, by decide +kernel, by decide +kernel⟩
theorem wc_57 {L : Nat} {xs : Nat → Int32} : wC (PP L xs 57) ∈ w_all := show wC md_57 ∈ w_all from w_in 343 (by decide +kernel) (by decide +kernel)
theorem wd_57 : (dY md_57).cls ≠ "java/lang/invoke/MethodHandle" ∧ (dY md_57).cls ≠ "java/lang/invoke/VarHandle" ∧ (parseMethodDescriptor (dY md_57).desc).map (fun d => d.parameters.length) = some 0 := ⟨by decide +kernel, by decide +kernel, by decide +kernel⟩
theorem wc_58 {L : Nat} {xs : Nat → Int32} : wC (PP L xs 58) ∈ w_all := show wC md_58 ∈ w_all from w_in 363 (by decide +kernel) (by decide +kernel)
theorem wd_58 : (dY md_58).cls ≠ "java/lang/invoke/MethodHandle" ∧ (dY md_58).cls ≠ "java/lang/invoke/VarHandle" ∧ (parseMethodDescriptor (dY md_58).desc).map (fun d => d.parameters.length) = some 1 := ⟨by decide +kernel, by decide +kernel, by decide +kernel⟩
theorem wc_59 {L : Nat} {xs : Nat → Int32} : wC (PP L xs 59) ∈ w_all := show wC md_59 ∈ w_all from w_in 511 (by decide +kernel) (by decide +kernel)
theorem wd_59 : (dY md_59).cls ≠ "java/lang/invoke/MethodHandle" ∧ (dY md_59).cls ≠ "java/lang/invoke/VarHandle" ∧ (parseMethodDescriptor (dY md_59).desc).map (fun d => d.parameters.length) = some 0 := ⟨by decide +kernel, by decide +kernel, by decide +kernel⟩
theorem wc_60 {L : Nat} {xs : Nat → Int32} : wC (PP L xs 60) ∈ w_all := show wC md_60 ∈ w_all from w_in 415 (by decide +kernel) (by decide +kernel)
theorem wd_60 : (dY md_60).cls ≠ "java/lang/invoke/MethodHandle" ∧ (dY md_60).cls ≠ "java/lang/invoke/VarHandle" ∧ (parseMethodDescriptor (dY md_60).desc).map (fun d => d.parameters.length) = some 0 := ⟨by decide +kernel, by decide +kernel, by decide +kernel⟩
theorem wc_61 {L : Nat} {xs : Nat → Int32} : wC (PP L xs 61) ∈ w_all := show wC md_61 ∈ w_all from w_in 55 (by decide +kernel) (by decide +kernel)
theorem wd_61 : (dY md_61).cls ≠ "java/lang/invoke/MethodHandle" ∧ (dY md_61).cls ≠ "java/lang/invoke/VarHandle" ∧ (parseMethodDescriptor (dY md_61).desc).map (fun d => d.parameters.length) = some 0 := ⟨by decide +kernel, by decide +kernel, by decide +kernel⟩
theorem wc_62 {L : Nat} {xs : Nat → Int32} : wC (PP L xs 62) ∈ w_all := show wC md_62 ∈ w_all from w_in 271 (by decide +kernel) (by decide +kernel)
theorem wd_62 : (dY md_62).cls ≠ "java/lang/invoke/MethodHandle" ∧ (dY md_62).cls ≠ "java/lang/invoke/VarHandle" ∧ (parseMethodDescriptor (dY md_62).desc).map (fun d => d.parameters.length) = some 1 := ⟨by decide +kernel, by decide +kernel, by decide +kernel⟩
theorem wc_63 {L : Nat} {xs : Nat → Int32} : wC (PP L xs 63) ∈ w_all := show wC md_63 ∈ w_all from w_in 371 (by decide +kernel) (by decide +kernel)
theorem wd_63 : (dY md_63).cls ≠ "java/lang/invoke/MethodHandle" ∧ (dY md_63).cls ≠ "java/lang/invoke/VarHandle" ∧ (parseMethodDescriptor (dY md_63).desc).map (fun d => d.parameters.length) = some 1 := ⟨by decide +kernel, by decide +kernel, by decide +kernel⟩
theorem wc_64 {L : Nat} {xs : Nat → Int32} : wC (PP L xs 64) ∈ w_all := show wC md_64 ∈ w_all from w_in 426 (by decide +kernel) (by decide +kernel)
theorem wd_64 : (dY md_64).cls ≠ "java/lang/invoke/MethodHandle" ∧ (dY md_64).cls ≠ "java/lang/invoke/VarHandle" ∧ (parseMethodDescriptor (dY md_64).desc).map (fun d => d.parameters.length) = some 0 := ⟨by decide +kernel, by decide +kernel, by decide +kernel⟩
theorem wc_65 {L : Nat} {xs : Nat → Int32} : wC (PP L xs 65) ∈ w_all := show wC md_65 ∈ w_all from w_in 455 (by decide +kernel) (by decide +kernel)
theorem wd_65 : (dY md_65).cls ≠ "java/lang/invoke/MethodHandle" ∧ (dY md_65).cls ≠ "java/lang/invoke/VarHandle" ∧ (parseMethodDescriptor (dY md_65).desc).map (fun d => d.parameters.length) = some 2 := ⟨by decide +kernel, by decide +kernel, by decide +kernel⟩
theorem wc_66 {L : Nat} {xs : Nat → Int32} : wC (PP L xs 66) ∈ w_all := show wC md_66 ∈ w_all from w_in 468 (by decide +kernel) (by decide +kernel)
theorem wd_66 : (dY md_66).cls ≠ "java/lang/invoke/MethodHandle" ∧ (dY md_66).cls ≠ "java/lang/invoke/VarHandle" ∧ (parseMethodDescriptor (dY md_66).desc).map (fun d => d.parameters.length) = some 0 := ⟨by decide +kernel, by decide +kernel, by decide +kernel⟩
theorem wc_67 {L : Nat} {xs : Nat → Int32} : wC (PP L xs 67) ∈ w_all := show wC md_67 ∈ w_all from w_in 250 (by decide +kernel) (by decide +kernel)
theorem wd_67 : (dY md_67).cls ≠ "java/lang/invoke/MethodHandle" ∧ (dY md_67).cls ≠ "java/lang/invoke/VarHandle" ∧ (parseMethodDescriptor (dY md_67).desc).map (fun d => d.parameters.length) = some 0 := ⟨by decide +kernel, by decide +kernel, by decide +kernel⟩
theorem wc_68 {L : Nat} {xs : Nat → Int32} : wC (PP L xs 68) ∈ w_all := show wC md_68 ∈ w_all from w_in 484 (by decide +kernel) (by decide +kernel)
theorem wd_68 : (dY md_68).cls ≠ "java/lang/invoke/MethodHandle" ∧ (dY md_68).cls ≠ "java/lang/invoke/VarHandle" ∧ (parseMethodDescriptor (dY md_68).desc).map (fun d => d.parameters.length) = some 2 := ⟨by decide +kernel, by decide +kernel, by decide +kernel⟩
theorem wc_69 {L : Nat} {xs : Nat → Int32} : wC (PP L xs 69) ∈ w_all := show wC md_69 ∈ w_all from w_in 507 (by decide +kernel) (by decide +kernel)
theorem wd_69 : (dY md_69).cls ≠ "java/lang/invoke/MethodHandle" ∧ (dY md_69).cls ≠ "java/lang/invoke/VarHandle" ∧ (parseMethodDescriptor (dY md_69).desc).map (fun d => d.parameters.length) = some 1 := ⟨by decide +kernel, by decide +kernel, by decide +kernel⟩
theorem wc_70 {L : Nat} {xs : Nat → Int32} : wC (PP L xs 70) ∈ w_all := show wC md_70 ∈ w_all from w_in 537 (by decide +kernel) (by decide +kernel)
theorem wd_70 : (dY md_70).cls ≠ "java/lang/invoke/MethodHandle" ∧ (dY md_70).cls ≠ "java/lang/invoke/VarHandle" ∧ (parseMethodDescriptor (dY md_70).desc).map (fun d => d.parameters.length) = some 2 := ⟨by decide +kernel, by decide +kernel, by decide +kernel⟩
theorem wc_71 {L : Nat} {xs : Nat → Int32} : wC (PP L xs 71) ∈ w_all := show wC md_71 ∈ w_all from w_in 549 (by decide +kernel) (by decide +kernel)
theorem wd_71 : (dY md_71).cls ≠ "java/lang/invoke/MethodHandle" ∧ (dY md_71).cls ≠ "java/lang/invoke/VarHandle" ∧ (parseMethodDescriptor (dY md_71).desc).map (fun d => d.parameters.length) = some 2 := ⟨by decide +kernel, by decide +kernel, by decide +kernel⟩
theorem wc_72 {L : Nat} {xs : Nat → Int32} : wC (PP L xs 72) ∈ w_all := show wC md_72 ∈ w_all from w_in 661 (by decide +kernel) (by decide +kernel)
theorem wd_72 : (dY md_72).cls ≠ "java/lang/invoke/MethodHandle" ∧ (dY md_72).cls ≠ "java/lang/invoke/VarHandle" ∧ (parseMethodDescriptor (dY md_72).desc).map (fun d => d.parameters.length) = some 2 := ⟨by decide +kernel, by decide +kernel, by decide +kernel⟩
theorem wc_73 {L : Nat} {xs : Nat → Int32} : wC (PP L xs 73) ∈ w_all := show wC md_73 ∈ w_all from w_in 668 (by decide +kernel) (by decide +kernel)
theorem wd_73 : (dY md_73).cls ≠ "java/lang/invoke/MethodHandle" ∧ (dY md_73).cls ≠ "java/lang/invoke/VarHandle" ∧ (parseMethodDescriptor (dY md_73).desc).map (fun d => d.parameters.length) = some 1 := ⟨by decide +kernel, by decide +kernel, by decide +kernel⟩
theorem wc_74 {L : Nat} {xs : Nat → Int32} : wC (PP L xs 74) ∈ w_all := show wC md_74 ∈ w_all from w_in 684 (by decide +kernel) (by decide +kernel)
theorem wd_74 : (dY md_74).cls ≠ "java/lang/invoke/MethodHandle" ∧ (dY md_74).cls ≠ "java/lang/invoke/VarHandle" ∧ (parseMethodDescriptor (dY md_74).desc).map (fun d => d.parameters.length) = some 0 := ⟨by decide +kernel, by decide +kernel, by decide +kernel⟩
theorem wc_75 {L : Nat} {xs : Nat → Int32} : wC (PP L xs 75) ∈ w_all := show wC md_75 ∈ w_all from w_in 695 (by decide +kernel) (by decide +kernel)
theorem wd_75 : (dY md_75).cls ≠ "java/lang/invoke/MethodHandle" ∧ (dY md_75).cls ≠ "java/lang/invoke/VarHandle" ∧ (parseMethodDescriptor (dY md_75).desc).map (fun d => d.parameters.length) = some 2 := ⟨by decide +kernel, by decide +kernel, by decide +kernel⟩
theorem wc_76 {L : Nat} {xs : Nat → Int32} : wC (PP L xs 76) ∈ w_all := show wC md_76 ∈ w_all from w_in 730 (by decide +kernel) (by decide +kernel)
theorem wd_76 : (dY md_76).cls ≠ "java/lang/invoke/MethodHandle" ∧ (dY md_76).cls ≠ "java/lang/invoke/VarHandle" ∧ (parseMethodDescriptor (dY md_76).desc).map (fun d => d.parameters.length) = some 2 := ⟨by decide +kernel, by decide +kernel, by decide +kernel⟩
theorem wc_77 {L : Nat} {xs : Nat → Int32} : wC (PP L xs 77) ∈ w_all := show wC md_77 ∈ w_all from w_in 258 (by decide +kernel) (by decide +kernel)
theorem wd_77 : (dY md_77).cls ≠ "java/lang/invoke/MethodHandle" ∧ (dY md_77).cls ≠ "java/lang/invoke/VarHandle" ∧ (parseMethodDescriptor (dY md_77).desc).map (fun d => d.parameters.length) = some 0 := ⟨by decide +kernel, by decide +kernel, by decide +kernel⟩
theorem wc_78 {L : Nat} {xs : Nat → Int32} : wC (PP L xs 78) ∈ w_all := show wC md_78 ∈ w_all from w_in 553 (by decide +kernel) (by decide +kernel)
theorem wd_78 : (dY md_78).cls ≠ "java/lang/invoke/MethodHandle" ∧ (dY md_78).cls ≠ "java/lang/invoke/VarHandle" ∧ (parseMethodDescriptor (dY md_78).desc).map (fun d => d.parameters.length) = some 3 := ⟨by decide +kernel, by decide +kernel, by decide +kernel⟩
theorem wc_79 {L : Nat} {xs : Nat → Int32} : wC (PP L xs 79) ∈ w_all := show wC md_79 ∈ w_all from w_in 561 (by decide +kernel) (by decide +kernel)
theorem wd_79 : (dY md_79).cls ≠ "java/lang/invoke/MethodHandle" ∧ (dY md_79).cls ≠ "java/lang/invoke/VarHandle" ∧ (parseMethodDescriptor (dY md_79).desc).map (fun d => d.parameters.length) = some 1 := ⟨by decide +kernel, by decide +kernel, by decide +kernel⟩
theorem wc_80 {L : Nat} {xs : Nat → Int32} : wC (PP L xs 80) ∈ w_all := show wC md_80 ∈ w_all from w_in 699 (by decide +kernel) (by decide +kernel)
theorem wd_80 : (dY md_80).cls ≠ "java/lang/invoke/MethodHandle" ∧ (dY md_80).cls ≠ "java/lang/invoke/VarHandle" ∧ (parseMethodDescriptor (dY md_80).desc).map (fun d => d.parameters.length) = some 3 := ⟨by decide +kernel, by decide +kernel, by decide +kernel⟩
theorem wc_81 {L : Nat} {xs : Nat → Int32} : wC (PP L xs 81) ∈ w_all := show wC md_81 ∈ w_all from w_in 719 (by decide +kernel) (by decide +kernel)
theorem wd_81 : (dY md_81).cls ≠ "java/lang/invoke/MethodHandle" ∧ (dY md_81).cls ≠ "java/lang/invoke/VarHandle" ∧ (parseMethodDescriptor (dY md_81).desc).map (fun d => d.parameters.length) = some 1 := ⟨by decide +kernel, by decide +kernel, by decide +kernel⟩
theorem wc_82 {L : Nat} {xs : Nat → Int32} : wC (PP L xs 82) ∈ w_all := show wC md_82 ∈ w_all from w_in 722 (by decide +kernel) (by decide +kernel)
theorem wd_82 : (dY md_82).cls ≠ "java/lang/invoke/MethodHandle" ∧ (dY md_82).cls ≠ "java/lang/invoke/VarHandle" ∧ (parseMethodDescriptor (dY md_82).desc).map (fun d => d.parameters.length) = some 2 := ⟨by decide +kernel, by decide +kernel, by decide +kernel⟩
theorem wc_83 {L : Nat} {xs : Nat → Int32} : wC (PP L xs 83) ∈ w_all := show wC md_83 ∈ w_all from w_in 687 (by decide +kernel) (by decide +kernel)
theorem wd_83 : (dY md_83).cls ≠ "java/lang/invoke/MethodHandle" ∧ (dY md_83).cls ≠ "java/lang/invoke/VarHandle" ∧ (parseMethodDescriptor (dY md_83).desc).map (fun d => d.parameters.length) = some 1 := ⟨by decide +kernel, by decide +kernel, by decide +kernel⟩
theorem wc_84 {L : Nat} {xs : Nat → Int32} : wC (PP L xs 84) ∈ w_all := show wC md_84 ∈ w_all from w_in 377 (by decide +kernel) (by decide +kernel)
theorem wd_84 : (dY md_84).cls ≠ "java/lang/invoke/MethodHandle" ∧ (dY md_84).cls ≠ "java/lang/invoke/VarHandle" ∧ (parseMethodDescriptor (dY md_84).desc).map (fun d => d.parameters.length) = some 1 := ⟨by decide +kernel, by decide +kernel, by decide +kernel⟩
theorem wc_85 {L : Nat} {xs : Nat → Int32} : wC (PP L xs 85) ∈ w_all := show wC md_85 ∈ w_all from w_in 374 (by decide +kernel) (by decide +kernel)
theorem wd_85 : (dY md_85).cls ≠ "java/lang/invoke/MethodHandle" ∧ (dY md_85).cls ≠ "java/lang/invoke/VarHandle" ∧ (parseMethodDescriptor (dY md_85).desc).map (fun d => d.parameters.length) = some 1 := ⟨by decide +kernel, by decide +kernel, by decide +kernel⟩
theorem wc_86 {L : Nat} {xs : Nat → Int32} : wC (PP L xs 86) ∈ w_all := show wC md_86 ∈ w_all from w_in 496 (by decide +kernel) (by decide +kernel)
theorem wd_86 : (dY md_86).cls ≠ "java/lang/invoke/MethodHandle" ∧ (dY md_86).cls ≠ "java/lang/invoke/VarHandle" ∧ (parseMethodDescriptor (dY md_86).desc).map (fun d => d.parameters.length) = some 1 := ⟨by decide +kernel, by decide +kernel, by decide +kernel⟩
theorem wc_87 {L : Nat} {xs : Nat → Int32} : wC (PP L xs 87) ∈ w_all := show wC md_87 ∈ w_all from w_in 556 (by decide +kernel) (by decide +kernel)
theorem wd_87 : (dY md_87).cls ≠ "java/lang/invoke/MethodHandle" ∧ (dY md_87).cls ≠ "java/lang/invoke/VarHandle" ∧ (parseMethodDescriptor (dY md_87).desc).map (fun d => d.parameters.length) = some 1 := ⟨by decide +kernel, by decide +kernel, by decide +kernel⟩
theorem wc_88 {L : Nat} {xs : Nat → Int32} : wC (PP L xs 88) ∈ w_all := show wC md_88 ∈ w_all from w_in 488 (by decide +kernel) (by decide +kernel)
theorem wd_88 : (dY md_88).cls ≠ "java/lang/invoke/MethodHandle" ∧ (dY md_88).cls ≠ "java/lang/invoke/VarHandle" ∧ (parseMethodDescriptor (dY md_88).desc).map (fun d => d.parameters.length) = some 1 := ⟨by decide +kernel, by decide +kernel, by decide +kernel⟩
theorem wc_89 {L : Nat} {xs : Nat → Int32} : wC (PP L xs 89) ∈ w_all := show wC md_89 ∈ w_all from w_in 397 (by decide +kernel) (by decide +kernel)
theorem wd_89 : (dY md_89).cls ≠ "java/lang/invoke/MethodHandle" ∧ (dY md_89).cls ≠ "java/lang/invoke/VarHandle" ∧ (parseMethodDescriptor (dY md_89).desc).map (fun d => d.parameters.length) = some 0 := ⟨by decide +kernel, by decide +kernel, by decide +kernel⟩
theorem wc_90 {L : Nat} {xs : Nat → Int32} : wC (PP L xs 90) ∈ w_all := show wC md_90 ∈ w_all from w_in 672 (by decide +kernel) (by decide +kernel)
theorem wd_90 : (dY md_90).cls ≠ "java/lang/invoke/MethodHandle" ∧ (dY md_90).cls ≠ "java/lang/invoke/VarHandle" ∧ (parseMethodDescriptor (dY md_90).desc).map (fun d => d.parameters.length) = some 0 := ⟨by decide +kernel, by decide +kernel, by decide +kernel⟩
theorem wc_91 {L : Nat} {xs : Nat → Int32} : wC (PP L xs 91) ∈ w_all := show wC md_91 ∈ w_all from w_in 735 (by decide +kernel) (by decide +kernel)
theorem wd_91 : (dY md_91).cls ≠ "java/lang/invoke/MethodHandle" ∧ (dY md_91).cls ≠ "java/lang/invoke/VarHandle" ∧ (parseMethodDescriptor (dY md_91).desc).map (fun d => d.parameters.length) = some 0 := ⟨by decide +kernel, by decide +kernel, by decide +kernel⟩
theorem wc_92 {L : Nat} {xs : Nat → Int32} : wC (PP L xs 92) ∈ w_all := show wC md_92 ∈ w_all from w_in 808 (by decide +kernel) (by decide +kernel)
theorem wd_92 : (dY md_92).cls ≠ "java/lang/invoke/MethodHandle" ∧ (dY md_92).cls ≠ "java/lang/invoke/VarHandle" ∧ (parseMethodDescriptor (dY md_92).desc).map (fun d => d.parameters.length) = some 0 := ⟨by decide +kernel, by decide +kernel, by decide +kernel⟩
theorem wc_93 {L : Nat} {xs : Nat → Int32} : wC (PP L xs 93) ∈ w_all := show wC md_93 ∈ w_all from w_in 819 (by decide +kernel) (by decide +kernel)
theorem wd_93 : (dY md_93).cls ≠ "java/lang/invoke/MethodHandle" ∧ (dY md_93).cls ≠ "java/lang/invoke/VarHandle" ∧ (parseMethodDescriptor (dY md_93).desc).map (fun d => d.parameters.length) = some 1 := ⟨by decide +kernel, by decide +kernel, by decide +kernel⟩
theorem wc_94 {L : Nat} {xs : Nat → Int32} : wC (PP L xs 94) ∈ w_all := show wC md_94 ∈ w_all from w_in 815 (by decide +kernel) (by decide +kernel)
theorem wd_94 : (dY md_94).cls ≠ "java/lang/invoke/MethodHandle" ∧ (dY md_94).cls ≠ "java/lang/invoke/VarHandle" ∧ (parseMethodDescriptor (dY md_94).desc).map (fun d => d.parameters.length) = some 3 := ⟨by decide +kernel, by decide +kernel, by decide +kernel⟩
theorem wc_95 {L : Nat} {xs : Nat → Int32} : wC (PP L xs 95) ∈ w_all := show wC md_95 ∈ w_all from w_in 826 (by decide +kernel) (by decide +kernel)
theorem wd_95 : (dY md_95).cls ≠ "java/lang/invoke/MethodHandle" ∧ (dY md_95).cls ≠ "java/lang/invoke/VarHandle" ∧ (parseMethodDescriptor (dY md_95).desc).map (fun d => d.parameters.length) = some 1 := ⟨by decide +kernel, by decide +kernel, by decide +kernel⟩
theorem wc_96 {L : Nat} {xs : Nat → Int32} : wC (PP L xs 96) ∈ w_all := show wC md_96 ∈ w_all from w_in 854 (by decide +kernel) (by decide +kernel)
theorem wd_96 : (dY md_96).cls ≠ "java/lang/invoke/MethodHandle" ∧ (dY md_96).cls ≠ "java/lang/invoke/VarHandle" ∧ (parseMethodDescriptor (dY md_96).desc).map (fun d => d.parameters.length) = some 1 := ⟨by decide +kernel, by decide +kernel, by decide +kernel⟩
theorem wc_97 {L : Nat} {xs : Nat → Int32} : wC (PP L xs 97) ∈ w_all := show wC md_97 ∈ w_all from w_in 812 (by decide +kernel) (by decide +kernel)
theorem wd_97 : (dY md_97).cls ≠ "java/lang/invoke/MethodHandle" ∧ (dY md_97).cls ≠ "java/lang/invoke/VarHandle" ∧ (parseMethodDescriptor (dY md_97).desc).map (fun d => d.parameters.length) = some 1 := ⟨by decide +kernel, by decide +kernel, by decide +kernel⟩
theorem wc_98 {L : Nat} {xs : Nat → Int32} : wC (PP L xs 98) ∈ w_all := show wC md_98 ∈ w_all from w_in 830 (by decide +kernel) (by decide +kernel)
theorem wd_98 : (dY md_98).cls ≠ "java/lang/invoke/MethodHandle" ∧ (dY md_98).cls ≠ "java/lang/invoke/VarHandle" ∧ (parseMethodDescriptor (dY md_98).desc).map (fun d => d.parameters.length) = some 0 := ⟨by decide +kernel, by decide +kernel, by decide +kernel⟩
theorem wc_99 {L : Nat} {xs : Nat → Int32} : wC (PP L xs 99) ∈ w_all := show wC md_99 ∈ w_all from w_in 823 (by decide +kernel) (by decide +kernel)
theorem wd_99 : (dY md_99).cls ≠ "java/lang/invoke/MethodHandle" ∧ (dY md_99).cls ≠ "java/lang/invoke/VarHandle" ∧ (parseMethodDescriptor (dY md_99).desc).map (fun d => d.parameters.length) = some 1 := ⟨by decide +kernel, by decide +kernel, by decide +kernel⟩
theorem wc_100 {L : Nat} {xs : Nat → Int32} : wC (PP L xs 100) ∈ w_all := show wC md_100 ∈ w_all from w_in 834 (by decide +kernel) (by decide +kernel)
theorem wd_100 : (dY md_100).cls ≠ "java/lang/invoke/MethodHandle" ∧ (dY md_100).cls ≠ "java/lang/invoke/VarHandle" ∧ (parseMethodDescriptor (dY md_100).desc).map (fun d => d.parameters.length) = some 0 := ⟨by decide +kernel, by decide +kernel, by decide +kernel⟩
theorem wc_101 {L : Nat} {xs : Nat → Int32} : wC (PP L xs 101) ∈ w_all := show wC md_101 ∈ w_all from w_in 838 (by decide +kernel) (by decide +kernel)
theorem wd_101 : (dY md_101).cls ≠ "java/lang/invoke/MethodHandle" ∧ (dY md_101).cls ≠ "java/lang/invoke/VarHandle" ∧ (parseMethodDescriptor (dY md_101).desc).map (fun d => d.parameters.length) = some 2 := ⟨by decide +kernel, by decide +kernel, by decide +kernel⟩
theorem wc_102 {L : Nat} {xs : Nat → Int32} : wC (PP L xs 102) ∈ w_all := show wC md_102 ∈ w_all from w_in 842 (by decide +kernel) (by decide +kernel)
theorem wd_102 : (dY md_102).cls ≠ "java/lang/invoke/MethodHandle" ∧ (dY md_102).cls ≠ "java/lang/invoke/VarHandle" ∧ (parseMethodDescriptor (dY md_102).desc).map (fun d => d.parameters.length) = some 0 := ⟨by decide +kernel, by decide +kernel, by decide +kernel⟩
theorem wc_103 {L : Nat} {xs : Nat → Int32} : wC (PP L xs 103) ∈ w_all := show wC md_103 ∈ w_all from w_in 846 (by decide +kernel) (by decide +kernel)
theorem wd_103 : (dY md_103).cls ≠ "java/lang/invoke/MethodHandle" ∧ (dY md_103).cls ≠ "java/lang/invoke/VarHandle" ∧ (parseMethodDescriptor (dY md_103).desc).map (fun d => d.parameters.length) = some 0 := ⟨by decide +kernel, by decide +kernel, by decide +kernel⟩
theorem wc_104 {L : Nat} {xs : Nat → Int32} : wC (PP L xs 104) ∈ w_all := show wC md_104 ∈ w_all from w_in 850 (by decide +kernel) (by decide +kernel)
theorem wd_104 : (dY md_104).cls ≠ "java/lang/invoke/MethodHandle" ∧ (dY md_104).cls ≠ "java/lang/invoke/VarHandle" ∧ (parseMethodDescriptor (dY md_104).desc).map (fun d => d.parameters.length) = some 2 := ⟨by decide +kernel, by decide +kernel, by decide +kernel⟩
theorem wc_105 {L : Nat} {xs : Nat → Int32} : wC (PP L xs 105) ∈ w_all := show wC md_105 ∈ w_all from w_in 867 (by decide +kernel) (by decide +kernel)
theorem wd_105 : (dY md_105).cls ≠ "java/lang/invoke/MethodHandle" ∧ (dY md_105).cls ≠ "java/lang/invoke/VarHandle" ∧ (parseMethodDescriptor (dY md_105).desc).map (fun d => d.parameters.length) = some 3 := ⟨by decide +kernel, by decide +kernel, by decide +kernel⟩
theorem wc_106 {L : Nat} {xs : Nat → Int32} : wC (PP L xs 106) ∈ w_all := show wC md_106 ∈ w_all from w_in 870 (by decide +kernel) (by decide +kernel)
theorem wd_106 : (dY md_106).cls ≠ "java/lang/invoke/MethodHandle" ∧ (dY md_106).cls ≠ "java/lang/invoke/VarHandle" ∧ (parseMethodDescriptor (dY md_106).desc).map (fun d => d.parameters.length) = some 2 := ⟨by decide +kernel, by decide +kernel, by decide +kernel⟩
theorem wc_107 {L : Nat} {xs : Nat → Int32} : wC (PP L xs 107) ∈ w_all := show wC md_107 ∈ w_all from w_in 862 (by decide +kernel) (by decide +kernel)
theorem wd_107 : (dY md_107).cls ≠ "java/lang/invoke/MethodHandle" ∧ (dY md_107).cls ≠ "java/lang/invoke/VarHandle" ∧ (parseMethodDescriptor (dY md_107).desc).map (fun d => d.parameters.length) = some 2 := ⟨by decide +kernel, by decide +kernel, by decide +kernel⟩
theorem wc_108 {L : Nat} {xs : Nat → Int32} : wC (PP L xs 108) ∈ w_all := show wC md_108 ∈ w_all from w_in 879 (by decide +kernel) (by decide +kernel)
theorem wd_108 : (dY md_108).cls ≠ "java/lang/invoke/MethodHandle" ∧ (dY md_108).cls ≠ "java/lang/invoke/VarHandle" ∧ (parseMethodDescriptor (dY md_108).desc).map (fun d => d.parameters.length) = some 2 := ⟨by decide +kernel, by decide +kernel, by decide +kernel⟩
theorem wc_109 {L : Nat} {xs : Nat → Int32} : wC (PP L xs 109) ∈ w_all := show wC md_109 ∈ w_all from w_in 898 (by decide +kernel) (by decide +kernel)
theorem wd_109 : (dY md_109).cls ≠ "java/lang/invoke/MethodHandle" ∧ (dY md_109).cls ≠ "java/lang/invoke/VarHandle" ∧ (parseMethodDescriptor (dY md_109).desc).map (fun d => d.parameters.length) = some 0 := ⟨by decide +kernel, by decide +kernel, by decide +kernel⟩
theorem wc_110 {L : Nat} {xs : Nat → Int32} : wC (PP L xs 110) ∈ w_all := show wC md_110 ∈ w_all from w_in 902 (by decide +kernel) (by decide +kernel)
theorem wd_110 : (dY md_110).cls ≠ "java/lang/invoke/MethodHandle" ∧ (dY md_110).cls ≠ "java/lang/invoke/VarHandle" ∧ (parseMethodDescriptor (dY md_110).desc).map (fun d => d.parameters.length) = some 0 := ⟨by decide +kernel, by decide +kernel, by decide +kernel⟩
theorem wc_111 {L : Nat} {xs : Nat → Int32} : wC (PP L xs 111) ∈ w_all := show wC md_111 ∈ w_all from w_in 910 (by decide +kernel) (by decide +kernel)
theorem wd_111 : (dY md_111).cls ≠ "java/lang/invoke/MethodHandle" ∧ (dY md_111).cls ≠ "java/lang/invoke/VarHandle" ∧ (parseMethodDescriptor (dY md_111).desc).map (fun d => d.parameters.length) = some 2 := ⟨by decide +kernel, by decide +kernel, by decide +kernel⟩
theorem wc_112 {L : Nat} {xs : Nat → Int32} : wC (PP L xs 112) ∈ w_all := show wC md_112 ∈ w_all from w_in 906 (by decide +kernel) (by decide +kernel)
theorem wd_112 : (dY md_112).cls ≠ "java/lang/invoke/MethodHandle" ∧ (dY md_112).cls ≠ "java/lang/invoke/VarHandle" ∧ (parseMethodDescriptor (dY md_112).desc).map (fun d => d.parameters.length) = some 1 := ⟨by decide +kernel, by decide +kernel, by decide +kernel⟩
theorem wc_113 {L : Nat} {xs : Nat → Int32} : wC (PP L xs 113) ∈ w_all := show wC md_113 ∈ w_all from w_in 894 (by decide +kernel) (by decide +kernel)
theorem wd_113 : (dY md_113).cls ≠ "java/lang/invoke/MethodHandle" ∧ (dY md_113).cls ≠ "java/lang/invoke/VarHandle" ∧ (parseMethodDescriptor (dY md_113).desc).map (fun d => d.parameters.length) = some 2 := ⟨by decide +kernel, by decide +kernel, by decide +kernel⟩
theorem wc_114 {L : Nat} {xs : Nat → Int32} : wC (PP L xs 114) ∈ w_all := show wC md_114 ∈ w_all from w_in 858 (by decide +kernel) (by decide +kernel)
theorem wd_114 : (dY md_114).cls ≠ "java/lang/invoke/MethodHandle" ∧ (dY md_114).cls ≠ "java/lang/invoke/VarHandle" ∧ (parseMethodDescriptor (dY md_114).desc).map (fun d => d.parameters.length) = some 1 := ⟨by decide +kernel, by decide +kernel, by decide +kernel⟩
theorem wc_115 {L : Nat} {xs : Nat → Int32} : wC (PP L xs 115) ∈ w_all := show wC md_115 ∈ w_all from w_in 875 (by decide +kernel) (by decide +kernel)
theorem wd_115 : (dY md_115).cls ≠ "java/lang/invoke/MethodHandle" ∧ (dY md_115).cls ≠ "java/lang/invoke/VarHandle" ∧ (parseMethodDescriptor (dY md_115).desc).map (fun d => d.parameters.length) = some 2 := ⟨by decide +kernel, by decide +kernel, by decide +kernel⟩
theorem wc_116 {L : Nat} {xs : Nat → Int32} : wC (PP L xs 116) ∈ w_all := show wC md_116 ∈ w_all from w_in 890 (by decide +kernel) (by decide +kernel)
theorem wd_116 : (dY md_116).cls ≠ "java/lang/invoke/MethodHandle" ∧ (dY md_116).cls ≠ "java/lang/invoke/VarHandle" ∧ (parseMethodDescriptor (dY md_116).desc).map (fun d => d.parameters.length) = some 1 := ⟨by decide +kernel, by decide +kernel, by decide +kernel⟩
theorem wc_117 {L : Nat} {xs : Nat → Int32} : wC (PP L xs 117) ∈ w_all := show wC md_117 ∈ w_all from w_in 887 (by decide +kernel) (by decide +kernel)
theorem wd_117 : (dY md_117).cls ≠ "java/lang/invoke/MethodHandle" ∧ (dY md_117).cls ≠ "java/lang/invoke/VarHandle" ∧ (parseMethodDescriptor (dY md_117).desc).map (fun d => d.parameters.length) = some 2 := ⟨by decide +kernel, by decide +kernel, by decide +kernel⟩
theorem wc_118 {L : Nat} {xs : Nat → Int32} : wC (PP L xs 118) ∈ w_all := show wC md_118 ∈ w_all from w_in 883 (by decide +kernel) (by decide +kernel)
theorem wd_118 : (dY md_118).cls ≠ "java/lang/invoke/MethodHandle" ∧ (dY md_118).cls ≠ "java/lang/invoke/VarHandle" ∧ (parseMethodDescriptor (dY md_118).desc).map (fun d => d.parameters.length) = some 2 := ⟨by decide +kernel, by decide +kernel, by decide +kernel⟩
theorem wc_119 {L : Nat} {xs : Nat → Int32} : wC (PP L xs 119) ∈ w_all := show wC md_119 ∈ w_all from w_in 914 (by decide +kernel) (by decide +kernel)
theorem wd_119 : (dY md_119).cls ≠ "java/lang/invoke/MethodHandle" ∧ (dY md_119).cls ≠ "java/lang/invoke/VarHandle" ∧ (parseMethodDescriptor (dY md_119).desc).map (fun d => d.parameters.length) = some 2 := ⟨by decide +kernel, by decide +kernel, by decide +kernel⟩
theorem wc_120 {L : Nat} {xs : Nat → Int32} : wC (PP L xs 120) ∈ w_all := show wC md_120 ∈ w_all from w_in 922 (by decide +kernel) (by decide +kernel)
theorem wd_120 : (dY md_120).cls ≠ "java/lang/invoke/MethodHandle" ∧ (dY md_120).cls ≠ "java/lang/invoke/VarHandle" ∧ (parseMethodDescriptor (dY md_120).desc).map (fun d => d.parameters.length) = some 1 := ⟨by decide +kernel, by decide +kernel, by decide +kernel⟩
theorem wc_121 {L : Nat} {xs : Nat → Int32} : wC (PP L xs 121) ∈ w_all := show wC md_121 ∈ w_all from w_in 918 (by decide +kernel) (by decide +kernel)
theorem wd_121 : (dY md_121).cls ≠ "java/lang/invoke/MethodHandle" ∧ (dY md_121).cls ≠ "java/lang/invoke/VarHandle" ∧ (parseMethodDescriptor (dY md_121).desc).map (fun d => d.parameters.length) = some 1 := ⟨by decide +kernel, by decide +kernel, by decide +kernel⟩
theorem wc_122 {L : Nat} {xs : Nat → Int32} : wC (PP L xs 122) ∈ w_all := show wC md_122 ∈ w_all from w_in 926 (by decide +kernel) (by decide +kernel)
theorem wd_122 : (dY md_122).cls ≠ "java/lang/invoke/MethodHandle" ∧ (dY md_122).cls ≠ "java/lang/invoke/VarHandle" ∧ (parseMethodDescriptor (dY md_122).desc).map (fun d => d.parameters.length) = some 0 := ⟨by decide +kernel, by decide +kernel, by decide +kernel⟩
theorem wc_123 {L : Nat} {xs : Nat → Int32} : wC (PP L xs 123) ∈ w_all := show wC md_123 ∈ w_all from w_in 936 (by decide +kernel) (by decide +kernel)
theorem wd_123 : (dY md_123).cls ≠ "java/lang/invoke/MethodHandle" ∧ (dY md_123).cls ≠ "java/lang/invoke/VarHandle" ∧ (parseMethodDescriptor (dY md_123).desc).map (fun d => d.parameters.length) = some 2 := ⟨by decide +kernel, by decide +kernel, by decide +kernel⟩
theorem wc_124 {L : Nat} {xs : Nat → Int32} : wC (PP L xs 124) ∈ w_all := show wC md_124 ∈ w_all from w_in 932 (by decide +kernel) (by decide +kernel)
theorem wd_124 : (dY md_124).cls ≠ "java/lang/invoke/MethodHandle" ∧ (dY md_124).cls ≠ "java/lang/invoke/VarHandle" ∧ (parseMethodDescriptor (dY md_124).desc).map (fun d => d.parameters.length) = some 2 := ⟨by decide +kernel, by decide +kernel, by decide +kernel⟩
theorem wc_125 {L : Nat} {xs : Nat → Int32} : wC (PP L xs 125) ∈ w_all := show wC md_125 ∈ w_all from w_in 941 (by decide +kernel) (by decide +kernel)
theorem wd_125 : (dY md_125).cls ≠ "java/lang/invoke/MethodHandle" ∧ (dY md_125).cls ≠ "java/lang/invoke/VarHandle" ∧ (parseMethodDescriptor (dY md_125).desc).map (fun d => d.parameters.length) = some 2 := ⟨by decide +kernel, by decide +kernel, by decide +kernel⟩
theorem wc_126 {L : Nat} {xs : Nat → Int32} : wC (PP L xs 126) ∈ w_all := show wC md_126 ∈ w_all from w_in 945 (by decide +kernel) (by decide +kernel)
theorem wd_126 : (dY md_126).cls ≠ "java/lang/invoke/MethodHandle" ∧ (dY md_126).cls ≠ "java/lang/invoke/VarHandle" ∧ (parseMethodDescriptor (dY md_126).desc).map (fun d => d.parameters.length) = some 0 := ⟨by decide +kernel, by decide +kernel, by decide +kernel⟩
theorem wc_127 {L : Nat} {xs : Nat → Int32} : wC (PP L xs 127) ∈ w_all := show wC md_127 ∈ w_all from w_in 265 (by decide +kernel) (by decide +kernel)
theorem wd_127 : (dY md_127).cls ≠ "java/lang/invoke/MethodHandle" ∧ (dY md_127).cls ≠ "java/lang/invoke/VarHandle" ∧ (parseMethodDescriptor (dY md_127).desc).map (fun d => d.parameters.length) = some 3 := ⟨by decide +kernel, by decide +kernel, by decide +kernel⟩
theorem wc_128 {L : Nat} {xs : Nat → Int32} : wC (PP L xs 128) ∈ w_all := show wC md_128 ∈ w_all from w_in 366 (by decide +kernel) (by decide +kernel)
theorem wd_128 : (dY md_128).cls ≠ "java/lang/invoke/MethodHandle" ∧ (dY md_128).cls ≠ "java/lang/invoke/VarHandle" ∧ (parseMethodDescriptor (dY md_128).desc).map (fun d => d.parameters.length) = some 3 := ⟨by decide +kernel, by decide +kernel, by decide +kernel⟩
theorem wc_129 {L : Nat} {xs : Nat → Int32} : wC (PP L xs 129) ∈ w_all := show wC md_129 ∈ w_all from w_in 422 (by decide +kernel) (by decide +kernel)
theorem wd_129 : (dY md_129).cls ≠ "java/lang/invoke/MethodHandle" ∧ (dY md_129).cls ≠ "java/lang/invoke/VarHandle" ∧ (parseMethodDescriptor (dY md_129).desc).map (fun d => d.parameters.length) = some 2 := ⟨by decide +kernel, by decide +kernel, by decide +kernel⟩
theorem wc_130 {L : Nat} {xs : Nat → Int32} : wC (PP L xs 130) ∈ w_all := show wC md_130 ∈ w_all from w_in 451 (by decide +kernel) (by decide +kernel)
theorem wd_130 : (dY md_130).cls ≠ "java/lang/invoke/MethodHandle" ∧ (dY md_130).cls ≠ "java/lang/invoke/VarHandle" ∧ (parseMethodDescriptor (dY md_130).desc).map (fun d => d.parameters.length) = some 4 := ⟨by decide +kernel, by decide +kernel, by decide +kernel⟩
theorem wc_131 {L : Nat} {xs : Nat → Int32} : wC (PP L xs 131) ∈ w_all := show wC md_131 ∈ w_all from w_in 464 (by decide +kernel) (by decide +kernel)
theorem wd_131 : (dY md_131).cls ≠ "java/lang/invoke/MethodHandle" ∧ (dY md_131).cls ≠ "java/lang/invoke/VarHandle" ∧ (parseMethodDescriptor (dY md_131).desc).map (fun d => d.parameters.length) = some 2 := ⟨by decide +kernel, by decide +kernel, by decide +kernel⟩
theorem wc_132 {L : Nat} {xs : Nat → Int32} : wC (PP L xs 132) ∈ w_all := show wC md_132 ∈ w_all from w_in 480 (by decide +kernel) (by decide +kernel)
theorem wd_132 : (dY md_132).cls ≠ "java/lang/invoke/MethodHandle" ∧ (dY md_132).cls ≠ "java/lang/invoke/VarHandle" ∧ (parseMethodDescriptor (dY md_132).desc).map (fun d => d.parameters.length) = some 4 := ⟨by decide +kernel, by decide +kernel, by decide +kernel⟩
theorem wc_133 {L : Nat} {xs : Nat → Int32} : wC (PP L xs 133) ∈ w_all := show wC md_133 ∈ w_all from w_in 503 (by decide +kernel) (by decide +kernel)
theorem wd_133 : (dY md_133).cls ≠ "java/lang/invoke/MethodHandle" ∧ (dY md_133).cls ≠ "java/lang/invoke/VarHandle" ∧ (parseMethodDescriptor (dY md_133).desc).map (fun d => d.parameters.length) = some 3 := ⟨by decide +kernel, by decide +kernel, by decide +kernel⟩
theorem wc_134 {L : Nat} {xs : Nat → Int32} : wC (PP L xs 134) ∈ w_all := show wC md_134 ∈ w_all from w_in 533 (by decide +kernel) (by decide +kernel)
theorem wd_134 : (dY md_134).cls ≠ "java/lang/invoke/MethodHandle" ∧ (dY md_134).cls ≠ "java/lang/invoke/VarHandle" ∧ (parseMethodDescriptor (dY md_134).desc).map (fun d => d.parameters.length) = some 4 := ⟨by decide +kernel, by decide +kernel, by decide +kernel⟩
theorem wc_135 {L : Nat} {xs : Nat → Int32} : wC (PP L xs 135) ∈ w_all := show wC md_135 ∈ w_all from w_in 545 (by decide +kernel) (by decide +kernel)
theorem wd_135 : (dY md_135).cls ≠ "java/lang/invoke/MethodHandle" ∧ (dY md_135).cls ≠ "java/lang/invoke/VarHandle" ∧ (parseMethodDescriptor (dY md_135).desc).map (fun d => d.parameters.length) = some 4 := ⟨by decide +kernel, by decide +kernel, by decide +kernel⟩
theorem wc_136 {L : Nat} {xs : Nat → Int32} : wC (PP L xs 136) ∈ w_all := show wC md_136 ∈ w_all from w_in 657 (by decide +kernel) (by decide +kernel)
theorem wd_136 : (dY md_136).cls ≠ "java/lang/invoke/MethodHandle" ∧ (dY md_136).cls ≠ "java/lang/invoke/VarHandle" ∧ (parseMethodDescriptor (dY md_136).desc).map (fun d => d.parameters.length) = some 4 := ⟨by decide +kernel, by decide +kernel, by decide +kernel⟩
theorem wc_137 {L : Nat} {xs : Nat → Int32} : wC (PP L xs 137) ∈ w_all := show wC md_137 ∈ w_all from w_in 664 (by decide +kernel) (by decide +kernel)
theorem wd_137 : (dY md_137).cls ≠ "java/lang/invoke/MethodHandle" ∧ (dY md_137).cls ≠ "java/lang/invoke/VarHandle" ∧ (parseMethodDescriptor (dY md_137).desc).map (fun d => d.parameters.length) = some 3 := ⟨by decide +kernel, by decide +kernel, by decide +kernel⟩
theorem wc_138 {L : Nat} {xs : Nat → Int32} : wC (PP L xs 138) ∈ w_all := show wC md_138 ∈ w_all from w_in 680 (by decide +kernel) (by decide +kernel)
theorem wd_138 : (dY md_138).cls ≠ "java/lang/invoke/MethodHandle" ∧ (dY md_138).cls ≠ "java/lang/invoke/VarHandle" ∧ (parseMethodDescriptor (dY md_138).desc).map (fun d => d.parameters.length) = some 2 := ⟨by decide +kernel, by decide +kernel, by decide +kernel⟩
theorem wc_139 {L : Nat} {xs : Nat → Int32} : wC (PP L xs 139) ∈ w_all := show wC md_139 ∈ w_all from w_in 691 (by decide +kernel) (by decide +kernel)
theorem wd_139 : (dY md_139).cls ≠ "java/lang/invoke/MethodHandle" ∧ (dY md_139).cls ≠ "java/lang/invoke/VarHandle" ∧ (parseMethodDescriptor (dY md_139).desc).map (fun d => d.parameters.length) = some 4 := ⟨by decide +kernel, by decide +kernel, by decide +kernel⟩
theorem wc_140 {L : Nat} {xs : Nat → Int32} : wC (PP L xs 140) ∈ w_all := show wC md_140 ∈ w_all from w_in 726 (by decide +kernel) (by decide +kernel)
theorem wd_140 : (dY md_140).cls ≠ "java/lang/invoke/MethodHandle" ∧ (dY md_140).cls ≠ "java/lang/invoke/VarHandle" ∧ (parseMethodDescriptor (dY md_140).desc).map (fun d => d.parameters.length) = some 4 := ⟨by decide +kernel, by decide +kernel, by decide +kernel⟩
theorem wq_32 : Cond.initialized "TrellistagLaw" ∈ w_all := w_in 32 (by decide +kernel) (by decide +kernel)
theorem wq_33 : Cond.initialized "Trellistag" ∈ w_all := w_in 33 (by decide +kernel) (by decide +kernel)
theorem wq_34 : Cond.initialized "Trellistag$TypedWord" ∈ w_all := w_in 34 (by decide +kernel) (by decide +kernel)
theorem wq_35 : Cond.initialized "Trellistag$Corpus" ∈ w_all := w_in 35 (by decide +kernel) (by decide +kernel)
theorem wq_36 : Cond.initialized "Trellistag$Text" ∈ w_all := w_in 36 (by decide +kernel) (by decide +kernel)
theorem wq_37 : Cond.initialized "Trellistag$Sentence" ∈ w_all := w_in 37 (by decide +kernel) (by decide +kernel)
theorem wq_38 : Cond.initialized "Trellistag$Lattice" ∈ w_all := w_in 38 (by decide +kernel) (by decide +kernel)
theorem wq_39 : Cond.initialized "Trellistag$PathFinder" ∈ w_all := w_in 39 (by decide +kernel) (by decide +kernel)
theorem wq_40 : Cond.initialized "Trellistag$Trellis" ∈ w_all := w_in 40 (by decide +kernel) (by decide +kernel)
theorem wq_41 : Cond.initialized "Trellistag$Ranking" ∈ w_all := w_in 41 (by decide +kernel) (by decide +kernel)
theorem wq_42 : Cond.initialized "Trellistag$AllPaths" ∈ w_all := w_in 42 (by decide +kernel) (by decide +kernel)
theorem wq_43 : Cond.initialized "TrellistagModel" ∈ w_all := w_in 43 (by decide +kernel) (by decide +kernel)
theorem wq_47 : Cond.initialized "java/lang/IllegalArgumentException" ∈ w_all := w_in 47 (by decide +kernel) (by decide +kernel)
theorem wq_48 : Cond.initialized "java/lang/IllegalStateException" ∈ w_all := w_in 48 (by decide +kernel) (by decide +kernel)
theorem wq_49 : Cond.initialized "java/lang/IndexOutOfBoundsException" ∈ w_all := w_in 49 (by decide +kernel) (by decide +kernel)
theorem wq_50 : Cond.initialized "java/lang/Math" ∈ w_all := w_in 50 (by decide +kernel) (by decide +kernel)
theorem wq_51 : Cond.classLink "TrellistagLaw" 8 "Trellistag" ∈ w_all := w_in 51 (by decide +kernel) (by decide +kernel)
theorem wq_52 : Cond.instantiable "Trellistag" 9 ∈ w_all := w_in 52 (by decide +kernel) (by decide +kernel)
theorem wq_53 : Cond.methodLink "TrellistagLaw" 63 ⟨"Trellistag", "<init>", "()V"⟩ ∈ w_all := w_in 53 (by decide +kernel) (by decide +kernel)
theorem wq_54 : Cond.instanceMethod ⟨"Trellistag", "<init>", "()V"⟩ ∈ w_all := w_in 54 (by decide +kernel) (by decide +kernel)
theorem wq_56 : Cond.methodLink "Trellistag" 3 ⟨"java/lang/Object", "<init>", "()V"⟩ ∈ w_all := w_in 56 (by decide +kernel) (by decide +kernel)
theorem wq_57 : Cond.instanceMethod ⟨"java/lang/Object", "<init>", "()V"⟩ ∈ w_all := w_in 57 (by decide +kernel) (by decide +kernel)
theorem wq_59 : Cond.classLink "Trellistag" 9 "Trellistag$TypedWord" ∈ w_all := w_in 59 (by decide +kernel) (by decide +kernel)
theorem wq_60 : Cond.instantiable "Trellistag$TypedWord" 2 ∈ w_all := w_in 60 (by decide +kernel) (by decide +kernel)
theorem wq_61 : Cond.methodLinkNest "Trellistag" 11 ⟨"Trellistag$TypedWord", "<init>", "()V"⟩ "Trellistag" ∈ w_bad := w_bin 61 (by decide +kernel) (by decide +kernel)
theorem wq_62 : Cond.instanceMethod ⟨"Trellistag$TypedWord", "<init>", "()V"⟩ ∈ w_all := w_in 62 (by decide +kernel) (by decide +kernel)
theorem wq_64 : Cond.methodLink "Trellistag$TypedWord" 3 ⟨"java/lang/Object", "<init>", "()V"⟩ ∈ w_all := w_in 64 (by decide +kernel) (by decide +kernel)
theorem wq_65 : Cond.fieldLink "Trellistag$TypedWord" 15 "Trellistag$TypedWord" "code" "I" ∈ w_all := w_in 65 (by decide +kernel) (by decide +kernel)
theorem wq_66 : Cond.fieldLink "Trellistag$TypedWord" 9 "Trellistag$TypedWord" "letters" "I" ∈ w_all := w_in 66 (by decide +kernel) (by decide +kernel)
theorem wq_72 : Cond.classLink "Trellistag" 16 "Trellistag$Corpus" ∈ w_all := w_in 72 (by decide +kernel) (by decide +kernel)
theorem wq_73 : Cond.instantiable "Trellistag$Corpus" 5 ∈ w_all := w_in 73 (by decide +kernel) (by decide +kernel)
theorem wq_74 : Cond.methodLink "Trellistag" 18 ⟨"Trellistag$Corpus", "<init>", "()V"⟩ ∈ w_all := w_in 74 (by decide +kernel) (by decide +kernel)
theorem wq_75 : Cond.instanceMethod ⟨"Trellistag$Corpus", "<init>", "()V"⟩ ∈ w_all := w_in 75 (by decide +kernel) (by decide +kernel)
theorem wq_77 : Cond.methodLink "Trellistag$Corpus" 3 ⟨"java/lang/Object", "<init>", "()V"⟩ ∈ w_all := w_in 77 (by decide +kernel) (by decide +kernel)
theorem wq_78 : Cond.classLink "Trellistag$Corpus" 9 "Trellistag$Text" ∈ w_all := w_in 78 (by decide +kernel) (by decide +kernel)
theorem wq_80 : Cond.classLink "Trellistag$Corpus" 21 "[[I" ∈ w_all := w_in 80 (by decide +kernel) (by decide +kernel)
theorem wq_82 : Cond.instantiable "Trellistag$Text" 4 ∈ w_all := w_in 82 (by decide +kernel) (by decide +kernel)
theorem wq_83 : Cond.methodLinkNest "Trellistag$Corpus" 26 ⟨"Trellistag$Text", "<init>", "()V"⟩ "Trellistag" ∈ w_bad := w_bin 83 (by decide +kernel) (by decide +kernel)
theorem wq_84 : Cond.instanceMethod ⟨"Trellistag$Text", "<init>", "()V"⟩ ∈ w_all := w_in 84 (by decide +kernel) (by decide +kernel)
theorem wq_86 : Cond.methodLink "Trellistag$Text" 3 ⟨"java/lang/Object", "<init>", "()V"⟩ ∈ w_all := w_in 86 (by decide +kernel) (by decide +kernel)
theorem wq_87 : Cond.fieldLink "Trellistag$Text" 9 "Trellistag$Text" "words" "[I" ∈ w_all := w_in 87 (by decide +kernel) (by decide +kernel)
theorem wq_88 : Cond.fieldLinkNest "Trellistag$Corpus" 72 "Trellistag$Text" "words" "[I" "Trellistag" ∈ w_bad := w_bin 88 (by decide +kernel) (by decide +kernel)
theorem wq_89 : Cond.fieldLink "Trellistag$Text" 15 "Trellistag$Text" "tags" "[I" ∈ w_all := w_in 89 (by decide +kernel) (by decide +kernel)
theorem wq_90 : Cond.fieldLinkNest "Trellistag$Corpus" 46 "Trellistag$Text" "tags" "[I" "Trellistag" ∈ w_bad := w_bin 90 (by decide +kernel) (by decide +kernel)
theorem wq_91 : Cond.fieldLink "Trellistag$Text" 18 "Trellistag$Text" "size" "I" ∈ w_all := w_in 91 (by decide +kernel) (by decide +kernel)
theorem wq_92 : Cond.fieldLinkNest "Trellistag$Corpus" 49 "Trellistag$Text" "size" "I" "Trellistag" ∈ w_bad := w_bin 92 (by decide +kernel) (by decide +kernel)
theorem wq_93 : Cond.fieldLinkNest "Trellistag$Corpus" 38 "Trellistag$Text" "counts" "Z" "Trellistag" ∈ w_bad := w_bin 93 (by decide +kernel) (by decide +kernel)
theorem wq_103 : Cond.arrayClass FieldType.int ∈ w_all := w_in 103 (by decide +kernel) (by decide +kernel)
theorem wq_104 : Cond.fieldLink "Trellistag$Corpus" 11 "Trellistag$Corpus" "texts" "[LTrellistag$Text;" ∈ w_all := w_in 104 (by decide +kernel) (by decide +kernel)
theorem wq_105 : Cond.fieldLink "Trellistag$Corpus" 17 "Trellistag$Corpus" "firsts" "[I" ∈ w_all := w_in 105 (by decide +kernel) (by decide +kernel)
theorem wq_106 : Cond.fieldLink "Trellistag$Corpus" 23 "Trellistag$Corpus" "steps" "[[I" ∈ w_all := w_in 106 (by decide +kernel) (by decide +kernel)
theorem wq_107 : Cond.fieldLink "Trellistag$Corpus" 27 "Trellistag$Corpus" "size" "I" ∈ w_all := w_in 107 (by decide +kernel) (by decide +kernel)
theorem wq_108 : Cond.fieldLink "Trellistag$Corpus" 31 "Trellistag$Corpus" "counting" "I" ∈ w_all := w_in 108 (by decide +kernel) (by decide +kernel)
theorem wq_120 : Cond.classLink "Trellistag" 23 "Trellistag$Sentence" ∈ w_all := w_in 120 (by decide +kernel) (by decide +kernel)
theorem wq_121 : Cond.instantiable "Trellistag$Sentence" 3 ∈ w_all := w_in 121 (by decide +kernel) (by decide +kernel)
theorem wq_122 : Cond.methodLinkNest "Trellistag" 25 ⟨"Trellistag$Sentence", "<init>", "()V"⟩ "Trellistag" ∈ w_bad := w_bin 122 (by decide +kernel) (by decide +kernel)
theorem wq_123 : Cond.instanceMethod ⟨"Trellistag$Sentence", "<init>", "()V"⟩ ∈ w_all := w_in 123 (by decide +kernel) (by decide +kernel)
theorem wq_125 : Cond.methodLink "Trellistag$Sentence" 3 ⟨"java/lang/Object", "<init>", "()V"⟩ ∈ w_all := w_in 125 (by decide +kernel) (by decide +kernel)
theorem wq_126 : Cond.fieldLink "Trellistag$Sentence" 9 "Trellistag$Sentence" "words" "[I" ∈ w_all := w_in 126 (by decide +kernel) (by decide +kernel)
theorem wq_127 : Cond.fieldLink "Trellistag$Sentence" 15 "Trellistag$Sentence" "locks" "[I" ∈ w_all := w_in 127 (by decide +kernel) (by decide +kernel)
theorem wq_128 : Cond.fieldLink "Trellistag$Sentence" 18 "Trellistag$Sentence" "size" "I" ∈ w_all := w_in 128 (by decide +kernel) (by decide +kernel)
theorem wq_136 : Cond.classLink "Trellistag" 30 "Trellistag$Lattice" ∈ w_all := w_in 136 (by decide +kernel) (by decide +kernel)
theorem wq_137 : Cond.instantiable "Trellistag$Lattice" 4 ∈ w_all := w_in 137 (by decide +kernel) (by decide +kernel)
theorem wq_138 : Cond.methodLink "Trellistag" 32 ⟨"Trellistag$Lattice", "<init>", "(LTrellistag$Corpus;LTrellistag$Sentence;)V"⟩ ∈ w_all := w_in 138 (by decide +kernel) (by decide +kernel)
theorem wq_139 : Cond.instanceMethod ⟨"Trellistag$Lattice", "<init>", "(LTrellistag$Corpus;LTrellistag$Sentence;)V"⟩ ∈ w_all := w_in 139 (by decide +kernel) (by decide +kernel)
theorem wq_141 : Cond.methodLink "Trellistag$Lattice" 3 ⟨"java/lang/Object", "<init>", "()V"⟩ ∈ w_all := w_in 141 (by decide +kernel) (by decide +kernel)
theorem wq_142 : Cond.classLink "Trellistag$Lattice" 9 "[[I" ∈ w_all := w_in 142 (by decide +kernel) (by decide +kernel)
theorem wq_143 : Cond.fieldLink "Trellistag$Lattice" 19 "Trellistag$Lattice" "corpus" "LTrellistag$Corpus;" ∈ w_all := w_in 143 (by decide +kernel) (by decide +kernel)
theorem wq_144 : Cond.fieldLink "Trellistag$Lattice" 23 "Trellistag$Lattice" "sentence" "LTrellistag$Sentence;" ∈ w_all := w_in 144 (by decide +kernel) (by decide +kernel)
theorem wq_145 : Cond.fieldLink "Trellistag$Lattice" 11 "Trellistag$Lattice" "wordWeights" "[[I" ∈ w_all := w_in 145 (by decide +kernel) (by decide +kernel)
theorem wq_146 : Cond.fieldLink "Trellistag$Lattice" 16 "Trellistag$Lattice" "stepWeights" "[[I" ∈ w_all := w_in 146 (by decide +kernel) (by decide +kernel)
theorem wq_156 : Cond.classLink "Trellistag" 39 "Trellistag$Trellis" ∈ w_all := w_in 156 (by decide +kernel) (by decide +kernel)
theorem wq_157 : Cond.instantiable "Trellistag$Trellis" 4 ∈ w_all := w_in 157 (by decide +kernel) (by decide +kernel)
theorem wq_158 : Cond.methodLink "Trellistag" 41 ⟨"Trellistag$Trellis", "<init>", "(LTrellistag$Lattice;)V"⟩ ∈ w_all := w_in 158 (by decide +kernel) (by decide +kernel)
theorem wq_159 : Cond.instanceMethod ⟨"Trellistag$Trellis", "<init>", "(LTrellistag$Lattice;)V"⟩ ∈ w_all := w_in 159 (by decide +kernel) (by decide +kernel)
theorem wq_161 : Cond.methodLinkNest "Trellistag$Trellis" 3 ⟨"Trellistag$PathFinder", "<init>", "()V"⟩ "Trellistag" ∈ w_bad := w_bin 161 (by decide +kernel) (by decide +kernel)
theorem wq_162 : Cond.instanceMethod ⟨"Trellistag$PathFinder", "<init>", "()V"⟩ ∈ w_all := w_in 162 (by decide +kernel) (by decide +kernel)
theorem wq_164 : Cond.methodLink "Trellistag$PathFinder" 1 ⟨"java/lang/Object", "<init>", "()V"⟩ ∈ w_all := w_in 164 (by decide +kernel) (by decide +kernel)
theorem wq_165 : Cond.classLink "Trellistag$Trellis" 9 "Trellistag$Ranking" ∈ w_all := w_in 165 (by decide +kernel) (by decide +kernel)
theorem wq_167 : Cond.classLink "Trellistag$Trellis" 17 "[[J" ∈ w_all := w_in 167 (by decide +kernel) (by decide +kernel)
theorem wq_169 : Cond.instantiable "Trellistag$Ranking" 3 ∈ w_all := w_in 169 (by decide +kernel) (by decide +kernel)
theorem wq_170 : Cond.methodLinkNest "Trellistag$Trellis" 29 ⟨"Trellistag$Ranking", "<init>", "()V"⟩ "Trellistag" ∈ w_bad := w_bin 170 (by decide +kernel) (by decide +kernel)
theorem wq_171 : Cond.instanceMethod ⟨"Trellistag$Ranking", "<init>", "()V"⟩ ∈ w_all := w_in 171 (by decide +kernel) (by decide +kernel)
theorem wq_173 : Cond.methodLink "Trellistag$Ranking" 3 ⟨"java/lang/Object", "<init>", "()V"⟩ ∈ w_all := w_in 173 (by decide +kernel) (by decide +kernel)
theorem wq_174 : Cond.fieldLink "Trellistag$Ranking" 9 "Trellistag$Ranking" "weights" "[J" ∈ w_all := w_in 174 (by decide +kernel) (by decide +kernel)
theorem wq_175 : Cond.fieldLink "Trellistag$Ranking" 15 "Trellistag$Ranking" "paths" "[I" ∈ w_all := w_in 175 (by decide +kernel) (by decide +kernel)
theorem wq_176 : Cond.fieldLink "Trellistag$Ranking" 19 "Trellistag$Ranking" "size" "I" ∈ w_all := w_in 176 (by decide +kernel) (by decide +kernel)
theorem wq_184 : Cond.arrayClass FieldType.long ∈ w_all := w_in 184 (by decide +kernel) (by decide +kernel)
theorem wq_185 : Cond.fieldLink "Trellistag$Trellis" 25 "Trellistag$Trellis" "lattice" "LTrellistag$Lattice;" ∈ w_all := w_in 185 (by decide +kernel) (by decide +kernel)
theorem wq_186 : Cond.fieldLink "Trellistag$Trellis" 11 "Trellistag$Trellis" "rankings" "[LTrellistag$Ranking;" ∈ w_all := w_in 186 (by decide +kernel) (by decide +kernel)
theorem wq_187 : Cond.fieldLink "Trellistag$Trellis" 19 "Trellistag$Trellis" "sumsAhead" "[[J" ∈ w_all := w_in 187 (by decide +kernel) (by decide +kernel)
theorem wq_188 : Cond.fieldLink "Trellistag$Trellis" 22 "Trellistag$Trellis" "sumsBehind" "[[J" ∈ w_all := w_in 188 (by decide +kernel) (by decide +kernel)
theorem wq_198 : Cond.classLink "Trellistag" 48 "Trellistag$AllPaths" ∈ w_all := w_in 198 (by decide +kernel) (by decide +kernel)
theorem wq_199 : Cond.instantiable "Trellistag$AllPaths" 4 ∈ w_all := w_in 199 (by decide +kernel) (by decide +kernel)
theorem wq_200 : Cond.methodLink "Trellistag" 50 ⟨"Trellistag$AllPaths", "<init>", "(LTrellistag$Lattice;)V"⟩ ∈ w_all := w_in 200 (by decide +kernel) (by decide +kernel)
theorem wq_201 : Cond.instanceMethod ⟨"Trellistag$AllPaths", "<init>", "(LTrellistag$Lattice;)V"⟩ ∈ w_all := w_in 201 (by decide +kernel) (by decide +kernel)
theorem wq_203 : Cond.methodLinkNest "Trellistag$AllPaths" 3 ⟨"Trellistag$PathFinder", "<init>", "()V"⟩ "Trellistag" ∈ w_bad := w_bin 203 (by decide +kernel) (by decide +kernel)
theorem wq_204 : Cond.fieldLink "Trellistag$AllPaths" 22 "Trellistag$AllPaths" "lattice" "LTrellistag$Lattice;" ∈ w_all := w_in 204 (by decide +kernel) (by decide +kernel)
theorem wq_205 : Cond.fieldLink "Trellistag$AllPaths" 9 "Trellistag$AllPaths" "tags" "[I" ∈ w_all := w_in 205 (by decide +kernel) (by decide +kernel)
theorem wq_206 : Cond.fieldLink "Trellistag$AllPaths" 15 "Trellistag$AllPaths" "weights" "[J" ∈ w_all := w_in 206 (by decide +kernel) (by decide +kernel)
theorem wq_207 : Cond.fieldLink "Trellistag$AllPaths" 19 "Trellistag$AllPaths" "paths" "[I" ∈ w_all := w_in 207 (by decide +kernel) (by decide +kernel)
theorem wq_217 : Cond.classLink "Trellistag" 54 "Trellistag$Ranking" ∈ w_all := w_in 217 (by decide +kernel) (by decide +kernel)
theorem wq_218 : Cond.methodLinkNest "Trellistag" 56 ⟨"Trellistag$Ranking", "<init>", "()V"⟩ "Trellistag" ∈ w_bad := w_bin 218 (by decide +kernel) (by decide +kernel)
theorem wq_219 : Cond.fieldLink "Trellistag" 12 "Trellistag" "typed" "LTrellistag$TypedWord;" ∈ w_all := w_in 219 (by decide +kernel) (by decide +kernel)
theorem wq_220 : Cond.fieldLink "Trellistag" 19 "Trellistag" "corpus" "LTrellistag$Corpus;" ∈ w_all := w_in 220 (by decide +kernel) (by decide +kernel)
theorem wq_221 : Cond.fieldLink "Trellistag" 26 "Trellistag" "sentence" "LTrellistag$Sentence;" ∈ w_all := w_in 221 (by decide +kernel) (by decide +kernel)
theorem wq_222 : Cond.fieldLink "Trellistag" 35 "Trellistag" "lattice" "LTrellistag$Lattice;" ∈ w_all := w_in 222 (by decide +kernel) (by decide +kernel)
theorem wq_223 : Cond.fieldLink "Trellistag" 44 "Trellistag" "trellis" "LTrellistag$PathFinder;" ∈ w_all := w_in 223 (by decide +kernel) (by decide +kernel)
theorem wq_224 : Cond.fieldLink "Trellistag" 51 "Trellistag" "allPaths" "LTrellistag$PathFinder;" ∈ w_all := w_in 224 (by decide +kernel) (by decide +kernel)
theorem wq_225 : Cond.fieldLink "Trellistag" 57 "Trellistag" "best" "LTrellistag$Ranking;" ∈ w_all := w_in 225 (by decide +kernel) (by decide +kernel)
theorem wq_226 : Cond.fieldLink "Trellistag" 61 "Trellistag" "tagWeights" "[I" ∈ w_all := w_in 226 (by decide +kernel) (by decide +kernel)
theorem wq_227 : Cond.fieldLink "Trellistag" 65 "Trellistag" "tagSums" "[J" ∈ w_all := w_in 227 (by decide +kernel) (by decide +kernel)
theorem wq_247 : Cond.methodLink "TrellistagLaw" 91 ⟨"Trellistag", "clear", "()I"⟩ ∈ w_all := w_in 247 (by decide +kernel) (by decide +kernel)
theorem wq_248 : Cond.instanceMethod ⟨"Trellistag", "clear", "()I"⟩ ∈ w_all := w_in 248 (by decide +kernel) (by decide +kernel)
theorem wq_249 : Cond.selects "Trellistag" ⟨"Trellistag", "clear", "()I"⟩ ⟨"Trellistag", "clear", "()I"⟩ ∈ w_all := w_in 249 (by decide +kernel) (by decide +kernel)
theorem wq_251 : Cond.methodLink "Trellistag" 142 ⟨"Trellistag$Sentence", "removeAll", "()I"⟩ ∈ w_all := w_in 251 (by decide +kernel) (by decide +kernel)
theorem wq_252 : Cond.instanceMethod ⟨"Trellistag$Sentence", "removeAll", "()I"⟩ ∈ w_all := w_in 252 (by decide +kernel) (by decide +kernel)
theorem wq_253 : Cond.selects "Trellistag$Sentence" ⟨"Trellistag$Sentence", "removeAll", "()I"⟩ ⟨"Trellistag$Sentence", "removeAll", "()I"⟩ ∈ w_all := w_in 253 (by decide +kernel) (by decide +kernel)
theorem wq_255 : Cond.methodLink "TrellistagLaw" 123 ⟨"Trellistag", "texts", "()I"⟩ ∈ w_all := w_in 255 (by decide +kernel) (by decide +kernel)
theorem wq_256 : Cond.instanceMethod ⟨"Trellistag", "texts", "()I"⟩ ∈ w_all := w_in 256 (by decide +kernel) (by decide +kernel)
theorem wq_257 : Cond.selects "Trellistag" ⟨"Trellistag", "texts", "()I"⟩ ⟨"Trellistag", "texts", "()I"⟩ ∈ w_all := w_in 257 (by decide +kernel) (by decide +kernel)
theorem wq_259 : Cond.methodLink "Trellistag" 189 ⟨"Trellistag$Corpus", "counting", "()I"⟩ ∈ w_all := w_in 259 (by decide +kernel) (by decide +kernel)
theorem wq_260 : Cond.instanceMethod ⟨"Trellistag$Corpus", "counting", "()I"⟩ ∈ w_all := w_in 260 (by decide +kernel) (by decide +kernel)
theorem wq_261 : Cond.selects "Trellistag$Corpus" ⟨"Trellistag$Corpus", "counting", "()I"⟩ ⟨"Trellistag$Corpus", "counting", "()I"⟩ ∈ w_all := w_in 261 (by decide +kernel) (by decide +kernel)
theorem wq_263 : Cond.methodLink "TrellistagLaw" 67 ⟨"TrellistagLaw", "letter", "(LTrellistag;C[J)I"⟩ ∈ w_all := w_in 263 (by decide +kernel) (by decide +kernel)
theorem wq_264 : Cond.static ⟨"TrellistagLaw", "letter", "(LTrellistag;C[J)I"⟩ ∈ w_all := w_in 264 (by decide +kernel) (by decide +kernel)
theorem wq_266 : Cond.classLink "TrellistagLaw" 13 "java/lang/IllegalArgumentException" ∈ w_all := w_in 266 (by decide +kernel) (by decide +kernel)
theorem wq_267 : Cond.classLink "TrellistagLaw" 15 "java/lang/IllegalStateException" ∈ w_all := w_in 267 (by decide +kernel) (by decide +kernel)
theorem wq_268 : Cond.methodLink "TrellistagLaw" 7 ⟨"Trellistag", "letter", "(C)I"⟩ ∈ w_all := w_in 268 (by decide +kernel) (by decide +kernel)
theorem wq_269 : Cond.instanceMethod ⟨"Trellistag", "letter", "(C)I"⟩ ∈ w_all := w_in 269 (by decide +kernel) (by decide +kernel)
theorem wq_270 : Cond.selects "Trellistag" ⟨"Trellistag", "letter", "(C)I"⟩ ⟨"Trellistag", "letter", "(C)I"⟩ ∈ w_all := w_in 270 (by decide +kernel) (by decide +kernel)
theorem wq_272 : Cond.classLink "Trellistag" 69 "java/lang/IllegalArgumentException" ∈ w_all := w_in 272 (by decide +kernel) (by decide +kernel)
theorem wq_274 : Cond.castable "java/lang/IllegalArgumentException" "java/lang/IllegalArgumentException" ∈ w_bad := w_bin 274 (by decide +kernel) (by decide +kernel)
theorem wq_340 : Cond.methodLink "Trellistag" 76 ⟨"Trellistag$TypedWord", "isFull", "()Z"⟩ ∈ w_all := w_in 340 (by decide +kernel) (by decide +kernel)
theorem wq_341 : Cond.instanceMethod ⟨"Trellistag$TypedWord", "isFull", "()Z"⟩ ∈ w_all := w_in 341 (by decide +kernel) (by decide +kernel)
theorem wq_342 : Cond.selects "Trellistag$TypedWord" ⟨"Trellistag$TypedWord", "isFull", "()Z"⟩ ⟨"Trellistag$TypedWord", "isFull", "()Z"⟩ ∈ w_all := w_in 342 (by decide +kernel) (by decide +kernel)
theorem wq_344 : Cond.classLink "Trellistag" 80 "java/lang/IllegalStateException" ∈ w_all := w_in 344 (by decide +kernel) (by decide +kernel)
theorem wq_346 : Cond.castable "java/lang/IllegalStateException" "java/lang/IllegalStateException" ∈ w_bad := w_bin 346 (by decide +kernel) (by decide +kernel)
theorem wq_360 : Cond.methodLink "Trellistag" 85 ⟨"Trellistag$TypedWord", "append", "(C)I"⟩ ∈ w_all := w_in 360 (by decide +kernel) (by decide +kernel)
theorem wq_361 : Cond.instanceMethod ⟨"Trellistag$TypedWord", "append", "(C)I"⟩ ∈ w_all := w_in 361 (by decide +kernel) (by decide +kernel)
theorem wq_362 : Cond.selects "Trellistag$TypedWord" ⟨"Trellistag$TypedWord", "append", "(C)I"⟩ ⟨"Trellistag$TypedWord", "append", "(C)I"⟩ ∈ w_all := w_in 362 (by decide +kernel) (by decide +kernel)
theorem wq_364 : Cond.methodLink "TrellistagLaw" 76 ⟨"TrellistagLaw", "tag", "(LTrellistag;I[J)I"⟩ ∈ w_all := w_in 364 (by decide +kernel) (by decide +kernel)
theorem wq_365 : Cond.static ⟨"TrellistagLaw", "tag", "(LTrellistag;I[J)I"⟩ ∈ w_all := w_in 365 (by decide +kernel) (by decide +kernel)
theorem wq_367 : Cond.classLink "TrellistagLaw" 21 "java/lang/IndexOutOfBoundsException" ∈ w_all := w_in 367 (by decide +kernel) (by decide +kernel)
theorem wq_368 : Cond.methodLink "TrellistagLaw" 17 ⟨"Trellistag", "tag", "(I)I"⟩ ∈ w_all := w_in 368 (by decide +kernel) (by decide +kernel)
theorem wq_369 : Cond.instanceMethod ⟨"Trellistag", "tag", "(I)I"⟩ ∈ w_all := w_in 369 (by decide +kernel) (by decide +kernel)
theorem wq_370 : Cond.selects "Trellistag" ⟨"Trellistag", "tag", "(I)I"⟩ ⟨"Trellistag", "tag", "(I)I"⟩ ∈ w_all := w_in 370 (by decide +kernel) (by decide +kernel)
theorem wq_372 : Cond.methodLink "Trellistag" 89 ⟨"Trellistag", "requireTag", "(I)V"⟩ ∈ w_all := w_in 372 (by decide +kernel) (by decide +kernel)
theorem wq_373 : Cond.static ⟨"Trellistag", "requireTag", "(I)V"⟩ ∈ w_all := w_in 373 (by decide +kernel) (by decide +kernel)
theorem wq_375 : Cond.methodLink "Trellistag" 225 ⟨"Trellistag", "isTag", "(I)Z"⟩ ∈ w_all := w_in 375 (by decide +kernel) (by decide +kernel)
theorem wq_376 : Cond.static ⟨"Trellistag", "isTag", "(I)Z"⟩ ∈ w_all := w_in 376 (by decide +kernel) (by decide +kernel)
theorem wq_378 : Cond.classLink "Trellistag" 127 "java/lang/IndexOutOfBoundsException" ∈ w_all := w_in 378 (by decide +kernel) (by decide +kernel)
theorem wq_380 : Cond.castable "java/lang/IndexOutOfBoundsException" "java/lang/IndexOutOfBoundsException" ∈ w_bad := w_bin 380 (by decide +kernel) (by decide +kernel)
theorem wq_394 : Cond.methodLink "Trellistag" 93 ⟨"Trellistag", "requireTyped", "()V"⟩ ∈ w_all := w_in 394 (by decide +kernel) (by decide +kernel)
theorem wq_396 : Cond.instanceMethod ⟨"Trellistag", "requireTyped", "()V"⟩ ∈ w_all := w_in 396 (by decide +kernel) (by decide +kernel)
theorem wq_398 : Cond.methodLink "Trellistag" 234 ⟨"Trellistag$TypedWord", "isEmpty", "()Z"⟩ ∈ w_all := w_in 398 (by decide +kernel) (by decide +kernel)
theorem wq_399 : Cond.instanceMethod ⟨"Trellistag$TypedWord", "isEmpty", "()Z"⟩ ∈ w_all := w_in 399 (by decide +kernel) (by decide +kernel)
theorem wq_400 : Cond.selects "Trellistag$TypedWord" ⟨"Trellistag$TypedWord", "isEmpty", "()Z"⟩ ⟨"Trellistag$TypedWord", "isEmpty", "()Z"⟩ ∈ w_all := w_in 400 (by decide +kernel) (by decide +kernel)
theorem wq_403 : Cond.methodLink "Trellistag" 96 ⟨"Trellistag$Corpus", "draft", "()LTrellistag$Text;"⟩ ∈ w_all := w_in 403 (by decide +kernel) (by decide +kernel)
theorem wq_404 : Cond.instanceMethod ⟨"Trellistag$Corpus", "draft", "()LTrellistag$Text;"⟩ ∈ w_all := w_in 404 (by decide +kernel) (by decide +kernel)
theorem wq_405 : Cond.selects "Trellistag$Corpus" ⟨"Trellistag$Corpus", "draft", "()LTrellistag$Text;"⟩ ⟨"Trellistag$Corpus", "draft", "()LTrellistag$Text;"⟩ ∈ w_all := w_in 405 (by decide +kernel) (by decide +kernel)
theorem wq_407 : Cond.methodLink "Trellistag" 100 ⟨"Trellistag$Text", "isFull", "()Z"⟩ ∈ w_all := w_in 407 (by decide +kernel) (by decide +kernel)
theorem wq_408 : Cond.instanceMethod ⟨"Trellistag$Text", "isFull", "()Z"⟩ ∈ w_all := w_in 408 (by decide +kernel) (by decide +kernel)
theorem wq_409 : Cond.selects "Trellistag$Text" ⟨"Trellistag$Text", "isFull", "()Z"⟩ ⟨"Trellistag$Text", "isFull", "()Z"⟩ ∈ w_all := w_in 409 (by decide +kernel) (by decide +kernel)
theorem wq_412 : Cond.methodLink "Trellistag" 105 ⟨"Trellistag$TypedWord", "take", "()I"⟩ ∈ w_all := w_in 412 (by decide +kernel) (by decide +kernel)
theorem wq_413 : Cond.instanceMethod ⟨"Trellistag$TypedWord", "take", "()I"⟩ ∈ w_all := w_in 413 (by decide +kernel) (by decide +kernel)
theorem wq_414 : Cond.selects "Trellistag$TypedWord" ⟨"Trellistag$TypedWord", "take", "()I"⟩ ⟨"Trellistag$TypedWord", "take", "()I"⟩ ∈ w_all := w_in 414 (by decide +kernel) (by decide +kernel)
theorem wq_416 : Cond.methodLink "Trellistag" 109 ⟨"Trellistag$Text", "append", "(II)I"⟩ ∈ w_all := w_in 416 (by decide +kernel) (by decide +kernel)
theorem wq_417 : Cond.instanceMethod ⟨"Trellistag$Text", "append", "(II)I"⟩ ∈ w_all := w_in 417 (by decide +kernel) (by decide +kernel)
theorem wq_418 : Cond.selects "Trellistag$Text" ⟨"Trellistag$Text", "append", "(II)I"⟩ ⟨"Trellistag$Text", "append", "(II)I"⟩ ∈ w_all := w_in 418 (by decide +kernel) (by decide +kernel)
theorem wq_420 : Cond.methodLink "TrellistagLaw" 80 ⟨"TrellistagLaw", "add", "(LTrellistag;[J)I"⟩ ∈ w_all := w_in 420 (by decide +kernel) (by decide +kernel)
theorem wq_421 : Cond.static ⟨"TrellistagLaw", "add", "(LTrellistag;[J)I"⟩ ∈ w_all := w_in 421 (by decide +kernel) (by decide +kernel)
theorem wq_423 : Cond.methodLink "TrellistagLaw" 23 ⟨"Trellistag", "add", "()I"⟩ ∈ w_all := w_in 423 (by decide +kernel) (by decide +kernel)
theorem wq_424 : Cond.instanceMethod ⟨"Trellistag", "add", "()I"⟩ ∈ w_all := w_in 424 (by decide +kernel) (by decide +kernel)
theorem wq_425 : Cond.selects "Trellistag" ⟨"Trellistag", "add", "()I"⟩ ⟨"Trellistag", "add", "()I"⟩ ∈ w_all := w_in 425 (by decide +kernel) (by decide +kernel)
theorem wq_427 : Cond.methodLink "Trellistag" 112 ⟨"Trellistag$Text", "isEmpty", "()Z"⟩ ∈ w_all := w_in 427 (by decide +kernel) (by decide +kernel)
theorem wq_428 : Cond.instanceMethod ⟨"Trellistag$Text", "isEmpty", "()Z"⟩ ∈ w_all := w_in 428 (by decide +kernel) (by decide +kernel)
theorem wq_429 : Cond.selects "Trellistag$Text" ⟨"Trellistag$Text", "isEmpty", "()Z"⟩ ⟨"Trellistag$Text", "isEmpty", "()Z"⟩ ∈ w_all := w_in 429 (by decide +kernel) (by decide +kernel)
theorem wq_432 : Cond.methodLink "Trellistag" 117 ⟨"Trellistag$Corpus", "isFull", "()Z"⟩ ∈ w_all := w_in 432 (by decide +kernel) (by decide +kernel)
theorem wq_433 : Cond.instanceMethod ⟨"Trellistag$Corpus", "isFull", "()Z"⟩ ∈ w_all := w_in 433 (by decide +kernel) (by decide +kernel)
theorem wq_434 : Cond.selects "Trellistag$Corpus" ⟨"Trellistag$Corpus", "isFull", "()Z"⟩ ⟨"Trellistag$Corpus", "isFull", "()Z"⟩ ∈ w_all := w_in 434 (by decide +kernel) (by decide +kernel)
theorem wq_437 : Cond.methodLink "Trellistag" 120 ⟨"Trellistag$Corpus", "keepDraft", "()I"⟩ ∈ w_all := w_in 437 (by decide +kernel) (by decide +kernel)
theorem wq_438 : Cond.instanceMethod ⟨"Trellistag$Corpus", "keepDraft", "()I"⟩ ∈ w_all := w_in 438 (by decide +kernel) (by decide +kernel)
theorem wq_439 : Cond.selects "Trellistag$Corpus" ⟨"Trellistag$Corpus", "keepDraft", "()I"⟩ ⟨"Trellistag$Corpus", "keepDraft", "()I"⟩ ∈ w_all := w_in 439 (by decide +kernel) (by decide +kernel)
theorem wq_441 : Cond.methodLink "Trellistag$Corpus" 34 ⟨"Trellistag$Corpus", "letCount", "(IZ)Z"⟩ ∈ w_all := w_in 441 (by decide +kernel) (by decide +kernel)
theorem wq_442 : Cond.instanceMethod ⟨"Trellistag$Corpus", "letCount", "(IZ)Z"⟩ ∈ w_all := w_in 442 (by decide +kernel) (by decide +kernel)
theorem wq_443 : Cond.selects "Trellistag$Corpus" ⟨"Trellistag$Corpus", "letCount", "(IZ)Z"⟩ ⟨"Trellistag$Corpus", "letCount", "(IZ)Z"⟩ ∈ w_all := w_in 443 (by decide +kernel) (by decide +kernel)
theorem wq_445 : Cond.methodLink "Trellistag$Corpus" 42 ⟨"Trellistag$Corpus", "change", "(LTrellistag$Text;I)V"⟩ ∈ w_all := w_in 445 (by decide +kernel) (by decide +kernel)
theorem wq_447 : Cond.instanceMethod ⟨"Trellistag$Corpus", "change", "(LTrellistag$Text;I)V"⟩ ∈ w_all := w_in 447 (by decide +kernel) (by decide +kernel)
theorem wq_449 : Cond.methodLink "TrellistagLaw" 84 ⟨"TrellistagLaw", "text", "(LTrellistag;IZ[J)I"⟩ ∈ w_all := w_in 449 (by decide +kernel) (by decide +kernel)
theorem wq_450 : Cond.static ⟨"TrellistagLaw", "text", "(LTrellistag;IZ[J)I"⟩ ∈ w_all := w_in 450 (by decide +kernel) (by decide +kernel)
theorem wq_452 : Cond.methodLink "TrellistagLaw" 27 ⟨"Trellistag", "text", "(IZ)Z"⟩ ∈ w_all := w_in 452 (by decide +kernel) (by decide +kernel)
theorem wq_453 : Cond.instanceMethod ⟨"Trellistag", "text", "(IZ)Z"⟩ ∈ w_all := w_in 453 (by decide +kernel) (by decide +kernel)
theorem wq_454 : Cond.selects "Trellistag" ⟨"Trellistag", "text", "(IZ)Z"⟩ ⟨"Trellistag", "text", "(IZ)Z"⟩ ∈ w_all := w_in 454 (by decide +kernel) (by decide +kernel)
theorem wq_456 : Cond.methodLink "Trellistag" 123 ⟨"Trellistag$Corpus", "holds", "(I)Z"⟩ ∈ w_all := w_in 456 (by decide +kernel) (by decide +kernel)
theorem wq_457 : Cond.instanceMethod ⟨"Trellistag$Corpus", "holds", "(I)Z"⟩ ∈ w_all := w_in 457 (by decide +kernel) (by decide +kernel)
theorem wq_458 : Cond.selects "Trellistag$Corpus" ⟨"Trellistag$Corpus", "holds", "(I)Z"⟩ ⟨"Trellistag$Corpus", "holds", "(I)Z"⟩ ∈ w_all := w_in 458 (by decide +kernel) (by decide +kernel)
theorem wq_461 : Cond.methodLink "Trellistag" 132 ⟨"Trellistag$Corpus", "letCount", "(IZ)Z"⟩ ∈ w_all := w_in 461 (by decide +kernel) (by decide +kernel)
theorem wq_462 : Cond.methodLink "TrellistagLaw" 88 ⟨"TrellistagLaw", "word", "(LTrellistag;[J)I"⟩ ∈ w_all := w_in 462 (by decide +kernel) (by decide +kernel)
theorem wq_463 : Cond.static ⟨"TrellistagLaw", "word", "(LTrellistag;[J)I"⟩ ∈ w_all := w_in 463 (by decide +kernel) (by decide +kernel)
theorem wq_465 : Cond.methodLink "TrellistagLaw" 31 ⟨"Trellistag", "word", "()I"⟩ ∈ w_all := w_in 465 (by decide +kernel) (by decide +kernel)
theorem wq_466 : Cond.instanceMethod ⟨"Trellistag", "word", "()I"⟩ ∈ w_all := w_in 466 (by decide +kernel) (by decide +kernel)
theorem wq_467 : Cond.selects "Trellistag" ⟨"Trellistag", "word", "()I"⟩ ⟨"Trellistag", "word", "()I"⟩ ∈ w_all := w_in 467 (by decide +kernel) (by decide +kernel)
theorem wq_469 : Cond.methodLink "Trellistag" 136 ⟨"Trellistag$Sentence", "isFull", "()Z"⟩ ∈ w_all := w_in 469 (by decide +kernel) (by decide +kernel)
theorem wq_470 : Cond.instanceMethod ⟨"Trellistag$Sentence", "isFull", "()Z"⟩ ∈ w_all := w_in 470 (by decide +kernel) (by decide +kernel)
theorem wq_471 : Cond.selects "Trellistag$Sentence" ⟨"Trellistag$Sentence", "isFull", "()Z"⟩ ⟨"Trellistag$Sentence", "isFull", "()Z"⟩ ∈ w_all := w_in 471 (by decide +kernel) (by decide +kernel)
theorem wq_474 : Cond.methodLink "Trellistag" 139 ⟨"Trellistag$Sentence", "append", "(I)I"⟩ ∈ w_all := w_in 474 (by decide +kernel) (by decide +kernel)
theorem wq_475 : Cond.instanceMethod ⟨"Trellistag$Sentence", "append", "(I)I"⟩ ∈ w_all := w_in 475 (by decide +kernel) (by decide +kernel)
theorem wq_476 : Cond.selects "Trellistag$Sentence" ⟨"Trellistag$Sentence", "append", "(I)I"⟩ ⟨"Trellistag$Sentence", "append", "(I)I"⟩ ∈ w_all := w_in 476 (by decide +kernel) (by decide +kernel)
theorem wq_478 : Cond.methodLink "TrellistagLaw" 95 ⟨"TrellistagLaw", "lock", "(LTrellistag;II[J)I"⟩ ∈ w_all := w_in 478 (by decide +kernel) (by decide +kernel)
theorem wq_479 : Cond.static ⟨"TrellistagLaw", "lock", "(LTrellistag;II[J)I"⟩ ∈ w_all := w_in 479 (by decide +kernel) (by decide +kernel)
theorem wq_481 : Cond.methodLink "TrellistagLaw" 34 ⟨"Trellistag", "lock", "(II)I"⟩ ∈ w_all := w_in 481 (by decide +kernel) (by decide +kernel)
theorem wq_482 : Cond.instanceMethod ⟨"Trellistag", "lock", "(II)I"⟩ ∈ w_all := w_in 482 (by decide +kernel) (by decide +kernel)
theorem wq_483 : Cond.selects "Trellistag" ⟨"Trellistag", "lock", "(II)I"⟩ ⟨"Trellistag", "lock", "(II)I"⟩ ∈ w_all := w_in 483 (by decide +kernel) (by decide +kernel)
theorem wq_485 : Cond.methodLink "Trellistag" 145 ⟨"Trellistag", "requirePlace", "(I)V"⟩ ∈ w_all := w_in 485 (by decide +kernel) (by decide +kernel)
theorem wq_487 : Cond.instanceMethod ⟨"Trellistag", "requirePlace", "(I)V"⟩ ∈ w_all := w_in 487 (by decide +kernel) (by decide +kernel)
theorem wq_489 : Cond.methodLink "Trellistag" 192 ⟨"Trellistag$Sentence", "size", "()I"⟩ ∈ w_all := w_in 489 (by decide +kernel) (by decide +kernel)
theorem wq_490 : Cond.instanceMethod ⟨"Trellistag$Sentence", "size", "()I"⟩ ∈ w_all := w_in 490 (by decide +kernel) (by decide +kernel)
theorem wq_491 : Cond.selects "Trellistag$Sentence" ⟨"Trellistag$Sentence", "size", "()I"⟩ ⟨"Trellistag$Sentence", "size", "()I"⟩ ∈ w_all := w_in 491 (by decide +kernel) (by decide +kernel)
theorem wq_494 : Cond.methodLink "Trellistag" 148 ⟨"Trellistag", "requireTagOrNone", "(I)V"⟩ ∈ w_all := w_in 494 (by decide +kernel) (by decide +kernel)
theorem wq_495 : Cond.static ⟨"Trellistag", "requireTagOrNone", "(I)V"⟩ ∈ w_all := w_in 495 (by decide +kernel) (by decide +kernel)
theorem wq_497 : Cond.methodLink "Trellistag" 151 ⟨"Trellistag$Sentence", "lockTo", "(II)I"⟩ ∈ w_all := w_in 497 (by decide +kernel) (by decide +kernel)
theorem wq_498 : Cond.instanceMethod ⟨"Trellistag$Sentence", "lockTo", "(II)I"⟩ ∈ w_all := w_in 498 (by decide +kernel) (by decide +kernel)
theorem wq_499 : Cond.selects "Trellistag$Sentence" ⟨"Trellistag$Sentence", "lockTo", "(II)I"⟩ ⟨"Trellistag$Sentence", "lockTo", "(II)I"⟩ ∈ w_all := w_in 499 (by decide +kernel) (by decide +kernel)
theorem wq_501 : Cond.methodLink "TrellistagLaw" 99 ⟨"TrellistagLaw", "weight", "(LTrellistag;I[J)I"⟩ ∈ w_all := w_in 501 (by decide +kernel) (by decide +kernel)
theorem wq_502 : Cond.static ⟨"TrellistagLaw", "weight", "(LTrellistag;I[J)I"⟩ ∈ w_all := w_in 502 (by decide +kernel) (by decide +kernel)
theorem wq_504 : Cond.methodLink "TrellistagLaw" 38 ⟨"Trellistag", "weight", "(I)I"⟩ ∈ w_all := w_in 504 (by decide +kernel) (by decide +kernel)
theorem wq_505 : Cond.instanceMethod ⟨"Trellistag", "weight", "(I)I"⟩ ∈ w_all := w_in 505 (by decide +kernel) (by decide +kernel)
theorem wq_506 : Cond.selects "Trellistag" ⟨"Trellistag", "weight", "(I)I"⟩ ⟨"Trellistag", "weight", "(I)I"⟩ ∈ w_all := w_in 506 (by decide +kernel) (by decide +kernel)
theorem wq_508 : Cond.methodLink "Trellistag" 154 ⟨"Trellistag$TypedWord", "code", "()I"⟩ ∈ w_all := w_in 508 (by decide +kernel) (by decide +kernel)
theorem wq_509 : Cond.instanceMethod ⟨"Trellistag$TypedWord", "code", "()I"⟩ ∈ w_all := w_in 509 (by decide +kernel) (by decide +kernel)
theorem wq_510 : Cond.selects "Trellistag$TypedWord" ⟨"Trellistag$TypedWord", "code", "()I"⟩ ⟨"Trellistag$TypedWord", "code", "()I"⟩ ∈ w_all := w_in 510 (by decide +kernel) (by decide +kernel)
theorem wq_512 : Cond.methodLink "Trellistag" 157 ⟨"Trellistag$Corpus", "weigh", "(I[I)V"⟩ ∈ w_all := w_in 512 (by decide +kernel) (by decide +kernel)
theorem wq_513 : Cond.instanceMethod ⟨"Trellistag$Corpus", "weigh", "(I[I)V"⟩ ∈ w_all := w_in 513 (by decide +kernel) (by decide +kernel)
theorem wq_514 : Cond.selects "Trellistag$Corpus" ⟨"Trellistag$Corpus", "weigh", "(I[I)V"⟩ ⟨"Trellistag$Corpus", "weigh", "(I[I)V"⟩ ∈ w_all := w_in 514 (by decide +kernel) (by decide +kernel)
theorem wq_516 : Cond.methodLink "Trellistag$Corpus" 60 ⟨"Trellistag$Corpus", "clearRow", "([I)V"⟩ ∈ w_all := w_in 516 (by decide +kernel) (by decide +kernel)
theorem wq_517 : Cond.static ⟨"Trellistag$Corpus", "clearRow", "([I)V"⟩ ∈ w_all := w_in 517 (by decide +kernel) (by decide +kernel)
theorem wq_519 : Cond.methodLink "Trellistag$Corpus" 64 ⟨"Trellistag$Corpus", "countInText", "(LTrellistag$Text;II[I)I"⟩ ∈ w_all := w_in 519 (by decide +kernel) (by decide +kernel)
theorem wq_520 : Cond.static ⟨"Trellistag$Corpus", "countInText", "(LTrellistag$Text;II[I)I"⟩ ∈ w_all := w_in 520 (by decide +kernel) (by decide +kernel)
theorem wq_522 : Cond.methodLink "Trellistag$Corpus" 75 ⟨"Trellistag$Corpus", "likeness", "(II)I"⟩ ∈ w_all := w_in 522 (by decide +kernel) (by decide +kernel)
theorem wq_523 : Cond.static ⟨"Trellistag$Corpus", "likeness", "(II)I"⟩ ∈ w_all := w_in 523 (by decide +kernel) (by decide +kernel)
theorem wq_525 : Cond.methodLink "Trellistag$Corpus" 68 ⟨"Trellistag$Corpus", "factorOf", "(I)I"⟩ ∈ w_all := w_in 525 (by decide +kernel) (by decide +kernel)
theorem wq_526 : Cond.static ⟨"Trellistag$Corpus", "factorOf", "(I)I"⟩ ∈ w_all := w_in 526 (by decide +kernel) (by decide +kernel)
theorem wq_528 : Cond.methodLink "Trellistag$Corpus" 54 ⟨"java/lang/Math", "min", "(II)I"⟩ ∈ w_all := w_in 528 (by decide +kernel) (by decide +kernel)
theorem wq_529 : Cond.static ⟨"java/lang/Math", "min", "(II)I"⟩ ∈ w_all := w_in 529 (by decide +kernel) (by decide +kernel)
theorem wq_531 : Cond.methodLink "TrellistagLaw" 102 ⟨"TrellistagLaw", "step", "(LTrellistag;II[J)I"⟩ ∈ w_all := w_in 531 (by decide +kernel) (by decide +kernel)
theorem wq_532 : Cond.static ⟨"TrellistagLaw", "step", "(LTrellistag;II[J)I"⟩ ∈ w_all := w_in 532 (by decide +kernel) (by decide +kernel)
theorem wq_534 : Cond.methodLink "TrellistagLaw" 41 ⟨"Trellistag", "step", "(II)I"⟩ ∈ w_all := w_in 534 (by decide +kernel) (by decide +kernel)
theorem wq_535 : Cond.instanceMethod ⟨"Trellistag", "step", "(II)I"⟩ ∈ w_all := w_in 535 (by decide +kernel) (by decide +kernel)
theorem wq_536 : Cond.selects "Trellistag" ⟨"Trellistag", "step", "(II)I"⟩ ⟨"Trellistag", "step", "(II)I"⟩ ∈ w_all := w_in 536 (by decide +kernel) (by decide +kernel)
theorem wq_538 : Cond.methodLink "Trellistag" 161 ⟨"Trellistag$Corpus", "stepWeight", "(II)I"⟩ ∈ w_all := w_in 538 (by decide +kernel) (by decide +kernel)
theorem wq_539 : Cond.instanceMethod ⟨"Trellistag$Corpus", "stepWeight", "(II)I"⟩ ∈ w_all := w_in 539 (by decide +kernel) (by decide +kernel)
theorem wq_540 : Cond.selects "Trellistag$Corpus" ⟨"Trellistag$Corpus", "stepWeight", "(II)I"⟩ ⟨"Trellistag$Corpus", "stepWeight", "(II)I"⟩ ∈ w_all := w_in 540 (by decide +kernel) (by decide +kernel)
theorem wq_542 : Cond.methodLinkNest "Trellistag$Corpus" 50 ⟨"Trellistag", "isTag", "(I)Z"⟩ "Trellistag" ∈ w_bad := w_bin 542 (by decide +kernel) (by decide +kernel)
theorem wq_543 : Cond.methodLink "TrellistagLaw" 105 ⟨"TrellistagLaw", "path", "(LTrellistag;II[J)I"⟩ ∈ w_all := w_in 543 (by decide +kernel) (by decide +kernel)
theorem wq_544 : Cond.static ⟨"TrellistagLaw", "path", "(LTrellistag;II[J)I"⟩ ∈ w_all := w_in 544 (by decide +kernel) (by decide +kernel)
theorem wq_546 : Cond.methodLink "TrellistagLaw" 44 ⟨"Trellistag", "path", "(II)I"⟩ ∈ w_all := w_in 546 (by decide +kernel) (by decide +kernel)
theorem wq_547 : Cond.instanceMethod ⟨"Trellistag", "path", "(II)I"⟩ ∈ w_all := w_in 547 (by decide +kernel) (by decide +kernel)
theorem wq_548 : Cond.selects "Trellistag" ⟨"Trellistag", "path", "(II)I"⟩ ⟨"Trellistag", "path", "(II)I"⟩ ∈ w_all := w_in 548 (by decide +kernel) (by decide +kernel)
theorem wq_550 : Cond.methodLink "Trellistag" 164 ⟨"Trellistag", "tagOnPath", "(LTrellistag$PathFinder;II)I"⟩ ∈ w_all := w_in 550 (by decide +kernel) (by decide +kernel)
theorem wq_552 : Cond.instanceMethod ⟨"Trellistag", "tagOnPath", "(LTrellistag$PathFinder;II)I"⟩ ∈ w_all := w_in 552 (by decide +kernel) (by decide +kernel)
theorem wq_554 : Cond.methodLink "Trellistag" 168 ⟨"Trellistag", "requireRank", "(I)V"⟩ ∈ w_all := w_in 554 (by decide +kernel) (by decide +kernel)
theorem wq_555 : Cond.static ⟨"Trellistag", "requireRank", "(I)V"⟩ ∈ w_all := w_in 555 (by decide +kernel) (by decide +kernel)
theorem wq_558 : Cond.methodLink "Trellistag" 174 ⟨"Trellistag", "rankPaths", "(LTrellistag$PathFinder;)V"⟩ ∈ w_all := w_in 558 (by decide +kernel) (by decide +kernel)
theorem wq_560 : Cond.instanceMethod ⟨"Trellistag", "rankPaths", "(LTrellistag$PathFinder;)V"⟩ ∈ w_all := w_in 560 (by decide +kernel) (by decide +kernel)
theorem wq_562 : Cond.methodLink "Trellistag" 198 ⟨"Trellistag$Lattice", "weighAll", "()V"⟩ ∈ w_all := w_in 562 (by decide +kernel) (by decide +kernel)
theorem wq_563 : Cond.instanceMethod ⟨"Trellistag$Lattice", "weighAll", "()V"⟩ ∈ w_all := w_in 563 (by decide +kernel) (by decide +kernel)
theorem wq_564 : Cond.selects "Trellistag$Lattice" ⟨"Trellistag$Lattice", "weighAll", "()V"⟩ ⟨"Trellistag$Lattice", "weighAll", "()V"⟩ ∈ w_all := w_in 564 (by decide +kernel) (by decide +kernel)
theorem wq_566 : Cond.methodLink "Trellistag$Lattice" 33 ⟨"Trellistag$Corpus", "stepWeight", "(II)I"⟩ ∈ w_all := w_in 566 (by decide +kernel) (by decide +kernel)
theorem wq_567 : Cond.methodLink "Trellistag$Lattice" 27 ⟨"Trellistag$Sentence", "size", "()I"⟩ ∈ w_all := w_in 567 (by decide +kernel) (by decide +kernel)
theorem wq_568 : Cond.methodLink "Trellistag$Lattice" 39 ⟨"Trellistag$Sentence", "wordAt", "(I)I"⟩ ∈ w_all := w_in 568 (by decide +kernel) (by decide +kernel)
theorem wq_569 : Cond.instanceMethod ⟨"Trellistag$Sentence", "wordAt", "(I)I"⟩ ∈ w_all := w_in 569 (by decide +kernel) (by decide +kernel)
theorem wq_570 : Cond.selects "Trellistag$Sentence" ⟨"Trellistag$Sentence", "wordAt", "(I)I"⟩ ⟨"Trellistag$Sentence", "wordAt", "(I)I"⟩ ∈ w_all := w_in 570 (by decide +kernel) (by decide +kernel)
theorem wq_572 : Cond.methodLink "Trellistag$Lattice" 43 ⟨"Trellistag$Corpus", "weigh", "(I[I)V"⟩ ∈ w_all := w_in 572 (by decide +kernel) (by decide +kernel)
theorem wq_573 : Cond.methodLink "Trellistag$Lattice" 47 ⟨"Trellistag$Lattice", "ruleOut", "(I)V"⟩ ∈ w_all := w_in 573 (by decide +kernel) (by decide +kernel)
theorem wq_575 : Cond.instanceMethod ⟨"Trellistag$Lattice", "ruleOut", "(I)V"⟩ ∈ w_all := w_in 575 (by decide +kernel) (by decide +kernel)
theorem wq_577 : Cond.methodLink "Trellistag$Lattice" 51 ⟨"Trellistag$Sentence", "allows", "(II)Z"⟩ ∈ w_all := w_in 577 (by decide +kernel) (by decide +kernel)
theorem wq_578 : Cond.instanceMethod ⟨"Trellistag$Sentence", "allows", "(II)Z"⟩ ∈ w_all := w_in 578 (by decide +kernel) (by decide +kernel)
theorem wq_579 : Cond.selects "Trellistag$Sentence" ⟨"Trellistag$Sentence", "allows", "(II)Z"⟩ ⟨"Trellistag$Sentence", "allows", "(II)Z"⟩ ∈ w_all := w_in 579 (by decide +kernel) (by decide +kernel)
theorem wq_581 : Cond.methodLink "Trellistag" 201 ⟨"Trellistag$Ranking", "removeAll", "()V"⟩ ∈ w_all := w_in 581 (by decide +kernel) (by decide +kernel)
theorem wq_582 : Cond.instanceMethod ⟨"Trellistag$Ranking", "removeAll", "()V"⟩ ∈ w_all := w_in 582 (by decide +kernel) (by decide +kernel)
theorem wq_583 : Cond.selects "Trellistag$Ranking" ⟨"Trellistag$Ranking", "removeAll", "()V"⟩ ⟨"Trellistag$Ranking", "removeAll", "()V"⟩ ∈ w_all := w_in 583 (by decide +kernel) (by decide +kernel)
theorem wq_585 : Cond.methodLink "Trellistag" 203 ⟨"Trellistag$PathFinder", "rankInto", "(LTrellistag$Ranking;)V"⟩ ∈ w_all := w_in 585 (by decide +kernel) (by decide +kernel)
theorem wq_586 : Cond.declares ⟨"Trellistag$PathFinder", "rankInto", "(LTrellistag$Ranking;)V"⟩ ∈ w_bad := w_bin 586 (by decide +kernel) (by decide +kernel)
theorem wq_587 : Cond.sameMethod "Trellistag$PathFinder" "Trellistag$PathFinder" "rankInto" "(LTrellistag$Ranking;)V" ∈ w_all := w_in 587 (by decide +kernel) (by decide +kernel)
theorem wq_588 : Cond.selects "Trellistag$AllPaths" ⟨"Trellistag$PathFinder", "rankInto", "(LTrellistag$Ranking;)V"⟩ ⟨"Trellistag$AllPaths", "rankInto", "(LTrellistag$Ranking;)V"⟩ ∈ w_all := w_in 588 (by decide +kernel) (by decide +kernel)
theorem wq_589 : Cond.instanceMethod ⟨"Trellistag$AllPaths", "rankInto", "(LTrellistag$Ranking;)V"⟩ ∈ w_all := w_in 589 (by decide +kernel) (by decide +kernel)
theorem wq_591 : Cond.methodLink "Trellistag$AllPaths" 26 ⟨"Trellistag$Lattice", "size", "()I"⟩ ∈ w_all := w_in 591 (by decide +kernel) (by decide +kernel)
theorem wq_592 : Cond.instanceMethod ⟨"Trellistag$Lattice", "size", "()I"⟩ ∈ w_all := w_in 592 (by decide +kernel) (by decide +kernel)
theorem wq_593 : Cond.selects "Trellistag$Lattice" ⟨"Trellistag$Lattice", "size", "()I"⟩ ⟨"Trellistag$Lattice", "size", "()I"⟩ ∈ w_all := w_in 593 (by decide +kernel) (by decide +kernel)
theorem wq_595 : Cond.methodLink "Trellistag$AllPaths" 32 ⟨"Trellistag$AllPaths", "countPaths", "()I"⟩ ∈ w_all := w_in 595 (by decide +kernel) (by decide +kernel)
theorem wq_597 : Cond.instanceMethod ⟨"Trellistag$AllPaths", "countPaths", "()I"⟩ ∈ w_all := w_in 597 (by decide +kernel) (by decide +kernel)
theorem wq_599 : Cond.methodLink "Trellistag$AllPaths" 35 ⟨"Trellistag$AllPaths", "startWalk", "()V"⟩ ∈ w_all := w_in 599 (by decide +kernel) (by decide +kernel)
theorem wq_601 : Cond.instanceMethod ⟨"Trellistag$AllPaths", "startWalk", "()V"⟩ ∈ w_all := w_in 601 (by decide +kernel) (by decide +kernel)
theorem wq_603 : Cond.methodLink "Trellistag$AllPaths" 47 ⟨"Trellistag$AllPaths", "weighFrom", "(I)V"⟩ ∈ w_all := w_in 603 (by decide +kernel) (by decide +kernel)
theorem wq_605 : Cond.instanceMethod ⟨"Trellistag$AllPaths", "weighFrom", "(I)V"⟩ ∈ w_all := w_in 605 (by decide +kernel) (by decide +kernel)
theorem wq_607 : Cond.methodLink "Trellistag$AllPaths" 51 ⟨"Trellistag$Lattice", "arc", "(III)J"⟩ ∈ w_all := w_in 607 (by decide +kernel) (by decide +kernel)
theorem wq_608 : Cond.instanceMethod ⟨"Trellistag$Lattice", "arc", "(III)J"⟩ ∈ w_all := w_in 608 (by decide +kernel) (by decide +kernel)
theorem wq_609 : Cond.selects "Trellistag$Lattice" ⟨"Trellistag$Lattice", "arc", "(III)J"⟩ ⟨"Trellistag$Lattice", "arc", "(III)J"⟩ ∈ w_all := w_in 609 (by decide +kernel) (by decide +kernel)
theorem wq_611 : Cond.methodLink "Trellistag$AllPaths" 55 ⟨"Trellistag$Ranking", "extended", "(II)I"⟩ ∈ w_all := w_in 611 (by decide +kernel) (by decide +kernel)
theorem wq_612 : Cond.static ⟨"Trellistag$Ranking", "extended", "(II)I"⟩ ∈ w_all := w_in 612 (by decide +kernel) (by decide +kernel)
theorem wq_614 : Cond.methodLink "Trellistag$AllPaths" 38 ⟨"Trellistag$Ranking", "offer", "(JI)V"⟩ ∈ w_all := w_in 614 (by decide +kernel) (by decide +kernel)
theorem wq_615 : Cond.instanceMethod ⟨"Trellistag$Ranking", "offer", "(JI)V"⟩ ∈ w_all := w_in 615 (by decide +kernel) (by decide +kernel)
theorem wq_616 : Cond.selects "Trellistag$Ranking" ⟨"Trellistag$Ranking", "offer", "(JI)V"⟩ ⟨"Trellistag$Ranking", "offer", "(JI)V"⟩ ∈ w_all := w_in 616 (by decide +kernel) (by decide +kernel)
theorem wq_618 : Cond.methodLink "Trellistag$Ranking" 23 ⟨"Trellistag$Ranking", "insert", "(IJI)V"⟩ ∈ w_all := w_in 618 (by decide +kernel) (by decide +kernel)
theorem wq_620 : Cond.instanceMethod ⟨"Trellistag$Ranking", "insert", "(IJI)V"⟩ ∈ w_all := w_in 620 (by decide +kernel) (by decide +kernel)
theorem wq_622 : Cond.methodLink "Trellistag$AllPaths" 44 ⟨"Trellistag$AllPaths", "goOn", "()V"⟩ ∈ w_all := w_in 622 (by decide +kernel) (by decide +kernel)
theorem wq_624 : Cond.instanceMethod ⟨"Trellistag$AllPaths", "goOn", "()V"⟩ ∈ w_all := w_in 624 (by decide +kernel) (by decide +kernel)
theorem wq_626 : Cond.selects "Trellistag$Trellis" ⟨"Trellistag$PathFinder", "rankInto", "(LTrellistag$Ranking;)V"⟩ ⟨"Trellistag$Trellis", "rankInto", "(LTrellistag$Ranking;)V"⟩ ∈ w_all := w_in 626 (by decide +kernel) (by decide +kernel)
theorem wq_627 : Cond.instanceMethod ⟨"Trellistag$Trellis", "rankInto", "(LTrellistag$Ranking;)V"⟩ ∈ w_all := w_in 627 (by decide +kernel) (by decide +kernel)
theorem wq_629 : Cond.methodLink "Trellistag$Trellis" 30 ⟨"Trellistag$Lattice", "size", "()I"⟩ ∈ w_all := w_in 629 (by decide +kernel) (by decide +kernel)
theorem wq_630 : Cond.methodLink "Trellistag$Trellis" 36 ⟨"Trellistag$Trellis", "rankUpTo", "(II)V"⟩ ∈ w_all := w_in 630 (by decide +kernel) (by decide +kernel)
theorem wq_632 : Cond.instanceMethod ⟨"Trellistag$Trellis", "rankUpTo", "(II)V"⟩ ∈ w_all := w_in 632 (by decide +kernel) (by decide +kernel)
theorem wq_634 : Cond.methodLink "Trellistag$Trellis" 40 ⟨"Trellistag$Trellis", "rankingAt", "(II)LTrellistag$Ranking;"⟩ ∈ w_all := w_in 634 (by decide +kernel) (by decide +kernel)
theorem wq_636 : Cond.instanceMethod ⟨"Trellistag$Trellis", "rankingAt", "(II)LTrellistag$Ranking;"⟩ ∈ w_all := w_in 636 (by decide +kernel) (by decide +kernel)
theorem wq_638 : Cond.methodLink "Trellistag$Trellis" 48 ⟨"Trellistag$Ranking", "removeAll", "()V"⟩ ∈ w_all := w_in 638 (by decide +kernel) (by decide +kernel)
theorem wq_639 : Cond.methodLink "Trellistag$Trellis" 51 ⟨"Trellistag$Lattice", "arc", "(III)J"⟩ ∈ w_all := w_in 639 (by decide +kernel) (by decide +kernel)
theorem wq_640 : Cond.methodLink "Trellistag$Trellis" 55 ⟨"Trellistag$Ranking", "offer", "(JI)V"⟩ ∈ w_all := w_in 640 (by decide +kernel) (by decide +kernel)
theorem wq_641 : Cond.methodLink "Trellistag$Trellis" 59 ⟨"Trellistag$Ranking", "offerExtended", "(LTrellistag$Ranking;JI)V"⟩ ∈ w_all := w_in 641 (by decide +kernel) (by decide +kernel)
theorem wq_642 : Cond.instanceMethod ⟨"Trellistag$Ranking", "offerExtended", "(LTrellistag$Ranking;JI)V"⟩ ∈ w_all := w_in 642 (by decide +kernel) (by decide +kernel)
theorem wq_643 : Cond.selects "Trellistag$Ranking" ⟨"Trellistag$Ranking", "offerExtended", "(LTrellistag$Ranking;JI)V"⟩ ⟨"Trellistag$Ranking", "offerExtended", "(LTrellistag$Ranking;JI)V"⟩ ∈ w_all := w_in 643 (by decide +kernel) (by decide +kernel)
theorem wq_645 : Cond.methodLink "Trellistag$Ranking" 31 ⟨"Trellistag$Ranking", "extended", "(II)I"⟩ ∈ w_all := w_in 645 (by decide +kernel) (by decide +kernel)
theorem wq_646 : Cond.methodLink "Trellistag$Ranking" 27 ⟨"Trellistag$Ranking", "offer", "(JI)V"⟩ ∈ w_all := w_in 646 (by decide +kernel) (by decide +kernel)
theorem wq_647 : Cond.methodLink "Trellistag$Trellis" 44 ⟨"Trellistag$Ranking", "offerAll", "(LTrellistag$Ranking;)V"⟩ ∈ w_all := w_in 647 (by decide +kernel) (by decide +kernel)
theorem wq_648 : Cond.instanceMethod ⟨"Trellistag$Ranking", "offerAll", "(LTrellistag$Ranking;)V"⟩ ∈ w_all := w_in 648 (by decide +kernel) (by decide +kernel)
theorem wq_649 : Cond.selects "Trellistag$Ranking" ⟨"Trellistag$Ranking", "offerAll", "(LTrellistag$Ranking;)V"⟩ ⟨"Trellistag$Ranking", "offerAll", "(LTrellistag$Ranking;)V"⟩ ∈ w_all := w_in 649 (by decide +kernel) (by decide +kernel)
theorem wq_651 : Cond.methodLink "Trellistag" 195 ⟨"Trellistag$Ranking", "tagOf", "(II)I"⟩ ∈ w_all := w_in 651 (by decide +kernel) (by decide +kernel)
theorem wq_652 : Cond.instanceMethod ⟨"Trellistag$Ranking", "tagOf", "(II)I"⟩ ∈ w_all := w_in 652 (by decide +kernel) (by decide +kernel)
theorem wq_653 : Cond.selects "Trellistag$Ranking" ⟨"Trellistag$Ranking", "tagOf", "(II)I"⟩ ⟨"Trellistag$Ranking", "tagOf", "(II)I"⟩ ∈ w_all := w_in 653 (by decide +kernel) (by decide +kernel)
theorem wq_655 : Cond.methodLink "TrellistagLaw" 108 ⟨"TrellistagLaw", "pathAnew", "(LTrellistag;II[J)I"⟩ ∈ w_all := w_in 655 (by decide +kernel) (by decide +kernel)
theorem wq_656 : Cond.static ⟨"TrellistagLaw", "pathAnew", "(LTrellistag;II[J)I"⟩ ∈ w_all := w_in 656 (by decide +kernel) (by decide +kernel)
theorem wq_658 : Cond.methodLink "TrellistagLaw" 47 ⟨"Trellistag", "pathAnew", "(II)I"⟩ ∈ w_all := w_in 658 (by decide +kernel) (by decide +kernel)
theorem wq_659 : Cond.instanceMethod ⟨"Trellistag", "pathAnew", "(II)I"⟩ ∈ w_all := w_in 659 (by decide +kernel) (by decide +kernel)
theorem wq_660 : Cond.selects "Trellistag" ⟨"Trellistag", "pathAnew", "(II)I"⟩ ⟨"Trellistag", "pathAnew", "(II)I"⟩ ∈ w_all := w_in 660 (by decide +kernel) (by decide +kernel)
theorem wq_662 : Cond.methodLink "TrellistagLaw" 111 ⟨"TrellistagLaw", "product", "(LTrellistag;I[J)I"⟩ ∈ w_all := w_in 662 (by decide +kernel) (by decide +kernel)
theorem wq_663 : Cond.static ⟨"TrellistagLaw", "product", "(LTrellistag;I[J)I"⟩ ∈ w_all := w_in 663 (by decide +kernel) (by decide +kernel)
theorem wq_665 : Cond.methodLink "TrellistagLaw" 50 ⟨"Trellistag", "product", "(I)J"⟩ ∈ w_all := w_in 665 (by decide +kernel) (by decide +kernel)
theorem wq_666 : Cond.instanceMethod ⟨"Trellistag", "product", "(I)J"⟩ ∈ w_all := w_in 666 (by decide +kernel) (by decide +kernel)
theorem wq_667 : Cond.selects "Trellistag" ⟨"Trellistag", "product", "(I)J"⟩ ⟨"Trellistag", "product", "(I)J"⟩ ∈ w_all := w_in 667 (by decide +kernel) (by decide +kernel)
theorem wq_669 : Cond.methodLink "Trellistag" 171 ⟨"Trellistag", "requireSentence", "()V"⟩ ∈ w_all := w_in 669 (by decide +kernel) (by decide +kernel)
theorem wq_671 : Cond.instanceMethod ⟨"Trellistag", "requireSentence", "()V"⟩ ∈ w_all := w_in 671 (by decide +kernel) (by decide +kernel)
theorem wq_674 : Cond.methodLink "Trellistag" 178 ⟨"Trellistag$Ranking", "weightOf", "(I)J"⟩ ∈ w_all := w_in 674 (by decide +kernel) (by decide +kernel)
theorem wq_675 : Cond.instanceMethod ⟨"Trellistag$Ranking", "weightOf", "(I)J"⟩ ∈ w_all := w_in 675 (by decide +kernel) (by decide +kernel)
theorem wq_676 : Cond.selects "Trellistag$Ranking" ⟨"Trellistag$Ranking", "weightOf", "(I)J"⟩ ⟨"Trellistag$Ranking", "weightOf", "(I)J"⟩ ∈ w_all := w_in 676 (by decide +kernel) (by decide +kernel)
theorem wq_678 : Cond.methodLink "TrellistagLaw" 114 ⟨"TrellistagLaw", "cost", "(LTrellistag;[J)I"⟩ ∈ w_all := w_in 678 (by decide +kernel) (by decide +kernel)
theorem wq_679 : Cond.static ⟨"TrellistagLaw", "cost", "(LTrellistag;[J)I"⟩ ∈ w_all := w_in 679 (by decide +kernel) (by decide +kernel)
theorem wq_681 : Cond.methodLink "TrellistagLaw" 54 ⟨"Trellistag", "cost", "()I"⟩ ∈ w_all := w_in 681 (by decide +kernel) (by decide +kernel)
theorem wq_682 : Cond.instanceMethod ⟨"Trellistag", "cost", "()I"⟩ ∈ w_all := w_in 682 (by decide +kernel) (by decide +kernel)
theorem wq_683 : Cond.selects "Trellistag" ⟨"Trellistag", "cost", "()I"⟩ ⟨"Trellistag", "cost", "()I"⟩ ∈ w_all := w_in 683 (by decide +kernel) (by decide +kernel)
theorem wq_685 : Cond.methodLink "Trellistag" 182 ⟨"Trellistag", "doublings", "(J)I"⟩ ∈ w_all := w_in 685 (by decide +kernel) (by decide +kernel)
theorem wq_686 : Cond.static ⟨"Trellistag", "doublings", "(J)I"⟩ ∈ w_all := w_in 686 (by decide +kernel) (by decide +kernel)
theorem wq_688 : Cond.constantLong "Trellistag" 223 (1152921504606846975 : Int64) ∈ w_all := w_in 688 (by decide +kernel) (by decide +kernel)
theorem wq_689 : Cond.methodLink "TrellistagLaw" 117 ⟨"TrellistagLaw", "share", "(LTrellistag;II[J)I"⟩ ∈ w_all := w_in 689 (by decide +kernel) (by decide +kernel)
theorem wq_690 : Cond.static ⟨"TrellistagLaw", "share", "(LTrellistag;II[J)I"⟩ ∈ w_all := w_in 690 (by decide +kernel) (by decide +kernel)
theorem wq_692 : Cond.methodLink "TrellistagLaw" 57 ⟨"Trellistag", "share", "(II)I"⟩ ∈ w_all := w_in 692 (by decide +kernel) (by decide +kernel)
theorem wq_693 : Cond.instanceMethod ⟨"Trellistag", "share", "(II)I"⟩ ∈ w_all := w_in 693 (by decide +kernel) (by decide +kernel)
theorem wq_694 : Cond.selects "Trellistag" ⟨"Trellistag", "share", "(II)I"⟩ ⟨"Trellistag", "share", "(II)I"⟩ ∈ w_all := w_in 694 (by decide +kernel) (by decide +kernel)
theorem wq_696 : Cond.methodLink "Trellistag" 186 ⟨"Trellistag", "shareOfTag", "(LTrellistag$PathFinder;II)I"⟩ ∈ w_all := w_in 696 (by decide +kernel) (by decide +kernel)
theorem wq_698 : Cond.instanceMethod ⟨"Trellistag", "shareOfTag", "(LTrellistag$PathFinder;II)I"⟩ ∈ w_all := w_in 698 (by decide +kernel) (by decide +kernel)
theorem wq_700 : Cond.methodLink "Trellistag" 209 ⟨"Trellistag$PathFinder", "sumInto", "([JI)V"⟩ ∈ w_all := w_in 700 (by decide +kernel) (by decide +kernel)
theorem wq_701 : Cond.declares ⟨"Trellistag$PathFinder", "sumInto", "([JI)V"⟩ ∈ w_bad := w_bin 701 (by decide +kernel) (by decide +kernel)
theorem wq_702 : Cond.sameMethod "Trellistag$PathFinder" "Trellistag$PathFinder" "sumInto" "([JI)V" ∈ w_all := w_in 702 (by decide +kernel) (by decide +kernel)
theorem wq_703 : Cond.selects "Trellistag$AllPaths" ⟨"Trellistag$PathFinder", "sumInto", "([JI)V"⟩ ⟨"Trellistag$AllPaths", "sumInto", "([JI)V"⟩ ∈ w_all := w_in 703 (by decide +kernel) (by decide +kernel)
theorem wq_704 : Cond.instanceMethod ⟨"Trellistag$AllPaths", "sumInto", "([JI)V"⟩ ∈ w_all := w_in 704 (by decide +kernel) (by decide +kernel)
theorem wq_706 : Cond.selects "Trellistag$Trellis" ⟨"Trellistag$PathFinder", "sumInto", "([JI)V"⟩ ⟨"Trellistag$Trellis", "sumInto", "([JI)V"⟩ ∈ w_all := w_in 706 (by decide +kernel) (by decide +kernel)
theorem wq_707 : Cond.instanceMethod ⟨"Trellistag$Trellis", "sumInto", "([JI)V"⟩ ∈ w_all := w_in 707 (by decide +kernel) (by decide +kernel)
theorem wq_709 : Cond.methodLink "Trellistag$Trellis" 63 ⟨"Trellistag$Trellis", "sumAhead", "(II)J"⟩ ∈ w_all := w_in 709 (by decide +kernel) (by decide +kernel)
theorem wq_711 : Cond.instanceMethod ⟨"Trellistag$Trellis", "sumAhead", "(II)J"⟩ ∈ w_all := w_in 711 (by decide +kernel) (by decide +kernel)
theorem wq_713 : Cond.methodLink "Trellistag$Trellis" 67 ⟨"Trellistag$Trellis", "sumBehind", "(II)J"⟩ ∈ w_all := w_in 713 (by decide +kernel) (by decide +kernel)
theorem wq_715 : Cond.instanceMethod ⟨"Trellistag$Trellis", "sumBehind", "(II)J"⟩ ∈ w_all := w_in 715 (by decide +kernel) (by decide +kernel)
theorem wq_717 : Cond.methodLink "Trellistag" 213 ⟨"Trellistag", "total", "([J)J"⟩ ∈ w_all := w_in 717 (by decide +kernel) (by decide +kernel)
theorem wq_718 : Cond.static ⟨"Trellistag", "total", "([J)J"⟩ ∈ w_all := w_in 718 (by decide +kernel) (by decide +kernel)
theorem wq_720 : Cond.methodLink "Trellistag" 217 ⟨"Trellistag", "thousandths", "(JJ)I"⟩ ∈ w_all := w_in 720 (by decide +kernel) (by decide +kernel)
theorem wq_721 : Cond.static ⟨"Trellistag", "thousandths", "(JJ)I"⟩ ∈ w_all := w_in 721 (by decide +kernel) (by decide +kernel)
theorem wq_723 : Cond.constantLong "Trellistag" 221 (1000 : Int64) ∈ w_all := w_in 723 (by decide +kernel) (by decide +kernel)
theorem wq_724 : Cond.methodLink "TrellistagLaw" 120 ⟨"TrellistagLaw", "shareAnew", "(LTrellistag;II[J)I"⟩ ∈ w_all := w_in 724 (by decide +kernel) (by decide +kernel)
theorem wq_725 : Cond.static ⟨"TrellistagLaw", "shareAnew", "(LTrellistag;II[J)I"⟩ ∈ w_all := w_in 725 (by decide +kernel) (by decide +kernel)
theorem wq_727 : Cond.methodLink "TrellistagLaw" 60 ⟨"Trellistag", "shareAnew", "(II)I"⟩ ∈ w_all := w_in 727 (by decide +kernel) (by decide +kernel)
theorem wq_728 : Cond.instanceMethod ⟨"Trellistag", "shareAnew", "(II)I"⟩ ∈ w_all := w_in 728 (by decide +kernel) (by decide +kernel)
theorem wq_729 : Cond.selects "Trellistag" ⟨"Trellistag", "shareAnew", "(II)I"⟩ ⟨"Trellistag", "shareAnew", "(II)I"⟩ ∈ w_all := w_in 729 (by decide +kernel) (by decide +kernel)
theorem wq_731 : Cond.classLink "TrellistagLaw" 64 "TrellistagModel" ∈ w_all := w_in 731 (by decide +kernel) (by decide +kernel)
theorem wq_732 : Cond.instantiable "TrellistagModel" 22 ∈ w_all := w_in 732 (by decide +kernel) (by decide +kernel)
theorem wq_733 : Cond.methodLink "TrellistagLaw" 66 ⟨"TrellistagModel", "<init>", "()V"⟩ ∈ w_all := w_in 733 (by decide +kernel) (by decide +kernel)
theorem wq_734 : Cond.instanceMethod ⟨"TrellistagModel", "<init>", "()V"⟩ ∈ w_all := w_in 734 (by decide +kernel) (by decide +kernel)
theorem wq_736 : Cond.methodLink "TrellistagModel" 1 ⟨"java/lang/Object", "<init>", "()V"⟩ ∈ w_all := w_in 736 (by decide +kernel) (by decide +kernel)
theorem wq_737 : Cond.fieldLink "TrellistagModel" 55 "TrellistagModel" "thrown" "I" ∈ w_all := w_in 737 (by decide +kernel) (by decide +kernel)
theorem wq_738 : Cond.fieldLink "TrellistagModel" 51 "TrellistagModel" "typed" "I" ∈ w_all := w_in 738 (by decide +kernel) (by decide +kernel)
theorem wq_739 : Cond.fieldLink "TrellistagModel" 65 "TrellistagModel" "letters" "I" ∈ w_all := w_in 739 (by decide +kernel) (by decide +kernel)
theorem wq_740 : Cond.fieldLink "TrellistagModel" 7 "TrellistagModel" "draft" "[I" ∈ w_all := w_in 740 (by decide +kernel) (by decide +kernel)
theorem wq_741 : Cond.fieldLink "TrellistagModel" 13 "TrellistagModel" "draftTag" "[I" ∈ w_all := w_in 741 (by decide +kernel) (by decide +kernel)
theorem wq_742 : Cond.fieldLink "TrellistagModel" 75 "TrellistagModel" "drafted" "I" ∈ w_all := w_in 742 (by decide +kernel) (by decide +kernel)
theorem wq_743 : Cond.fieldLink "TrellistagModel" 16 "TrellistagModel" "its" "[I" ∈ w_all := w_in 743 (by decide +kernel) (by decide +kernel)
theorem wq_744 : Cond.fieldLink "TrellistagModel" 19 "TrellistagModel" "tagOf" "[I" ∈ w_all := w_in 744 (by decide +kernel) (by decide +kernel)
theorem wq_745 : Cond.fieldLink "TrellistagModel" 22 "TrellistagModel" "many" "[I" ∈ w_all := w_in 745 (by decide +kernel) (by decide +kernel)
theorem wq_746 : Cond.fieldLink "TrellistagModel" 25 "TrellistagModel" "counts" "[Z" ∈ w_all := w_in 746 (by decide +kernel) (by decide +kernel)
theorem wq_747 : Cond.fieldLink "TrellistagModel" 82 "TrellistagModel" "texts" "I" ∈ w_all := w_in 747 (by decide +kernel) (by decide +kernel)
theorem wq_748 : Cond.fieldLink "TrellistagModel" 29 "TrellistagModel" "sentence" "[I" ∈ w_all := w_in 748 (by decide +kernel) (by decide +kernel)
theorem wq_749 : Cond.fieldLink "TrellistagModel" 32 "TrellistagModel" "locked" "[I" ∈ w_all := w_in 749 (by decide +kernel) (by decide +kernel)
theorem wq_750 : Cond.fieldLink "TrellistagModel" 62 "TrellistagModel" "places" "I" ∈ w_all := w_in 750 (by decide +kernel) (by decide +kernel)
theorem wq_751 : Cond.fieldLink "TrellistagModel" 35 "TrellistagModel" "ofWord" "[J" ∈ w_all := w_in 751 (by decide +kernel) (by decide +kernel)
theorem wq_752 : Cond.fieldLink "TrellistagModel" 39 "TrellistagModel" "ofStep" "[J" ∈ w_all := w_in 752 (by decide +kernel) (by decide +kernel)
theorem wq_753 : Cond.fieldLink "TrellistagModel" 42 "TrellistagModel" "ofFirst" "[J" ∈ w_all := w_in 753 (by decide +kernel) (by decide +kernel)
theorem wq_754 : Cond.fieldLink "TrellistagModel" 45 "TrellistagModel" "best" "[J" ∈ w_all := w_in 754 (by decide +kernel) (by decide +kernel)
theorem wq_755 : Cond.fieldLink "TrellistagModel" 48 "TrellistagModel" "bestPath" "[I" ∈ w_all := w_in 755 (by decide +kernel) (by decide +kernel)
theorem wq_756 : Cond.fieldLink "TrellistagModel" 111 "TrellistagModel" "found" "I" ∈ w_all := w_in 756 (by decide +kernel) (by decide +kernel)
theorem wq_757 : Cond.fieldLink "TrellistagModel" 114 "TrellistagModel" "sum" "J" ∈ w_all := w_in 757 (by decide +kernel) (by decide +kernel)
theorem wq_758 : Cond.fieldLink "TrellistagModel" 118 "TrellistagModel" "part" "J" ∈ w_all := w_in 758 (by decide +kernel) (by decide +kernel)
theorem wq_804 : Cond.arrayClass FieldType.boolean ∈ w_all := w_in 804 (by decide +kernel) (by decide +kernel)
theorem wq_805 : Cond.methodLink "TrellistagLaw" 73 ⟨"TrellistagModel", "thrown", "()I"⟩ ∈ w_all := w_in 805 (by decide +kernel) (by decide +kernel)
theorem wq_806 : Cond.instanceMethod ⟨"TrellistagModel", "thrown", "()I"⟩ ∈ w_all := w_in 806 (by decide +kernel) (by decide +kernel)
theorem wq_807 : Cond.selects "TrellistagModel" ⟨"TrellistagModel", "thrown", "()I"⟩ ⟨"TrellistagModel", "thrown", "()I"⟩ ∈ w_all := w_in 807 (by decide +kernel) (by decide +kernel)
theorem wq_809 : Cond.methodLink "TrellistagLaw" 72 ⟨"TrellistagModel", "letter", "(C)I"⟩ ∈ w_all := w_in 809 (by decide +kernel) (by decide +kernel)
theorem wq_810 : Cond.instanceMethod ⟨"TrellistagModel", "letter", "(C)I"⟩ ∈ w_all := w_in 810 (by decide +kernel) (by decide +kernel)
theorem wq_811 : Cond.selects "TrellistagModel" ⟨"TrellistagModel", "letter", "(C)I"⟩ ⟨"TrellistagModel", "letter", "(C)I"⟩ ∈ w_all := w_in 811 (by decide +kernel) (by decide +kernel)
theorem wq_813 : Cond.methodLink "TrellistagModel" 58 ⟨"TrellistagModel", "isIn", "(III)Z"⟩ ∈ w_all := w_in 813 (by decide +kernel) (by decide +kernel)
theorem wq_814 : Cond.static ⟨"TrellistagModel", "isIn", "(III)Z"⟩ ∈ w_all := w_in 814 (by decide +kernel) (by decide +kernel)
theorem wq_816 : Cond.methodLink "TrellistagModel" 68 ⟨"TrellistagModel", "holds", "(I)Z"⟩ ∈ w_all := w_in 816 (by decide +kernel) (by decide +kernel)
theorem wq_818 : Cond.instanceMethod ⟨"TrellistagModel", "holds", "(I)Z"⟩ ∈ w_all := w_in 818 (by decide +kernel) (by decide +kernel)
theorem wq_820 : Cond.methodLink "TrellistagLaw" 79 ⟨"TrellistagModel", "tag", "(I)I"⟩ ∈ w_all := w_in 820 (by decide +kernel) (by decide +kernel)
theorem wq_821 : Cond.instanceMethod ⟨"TrellistagModel", "tag", "(I)I"⟩ ∈ w_all := w_in 821 (by decide +kernel) (by decide +kernel)
theorem wq_822 : Cond.selects "TrellistagModel" ⟨"TrellistagModel", "tag", "(I)I"⟩ ⟨"TrellistagModel", "tag", "(I)I"⟩ ∈ w_all := w_in 822 (by decide +kernel) (by decide +kernel)
theorem wq_824 : Cond.methodLink "TrellistagModel" 72 ⟨"TrellistagModel", "isTag", "(I)Z"⟩ ∈ w_all := w_in 824 (by decide +kernel) (by decide +kernel)
theorem wq_825 : Cond.static ⟨"TrellistagModel", "isTag", "(I)Z"⟩ ∈ w_all := w_in 825 (by decide +kernel) (by decide +kernel)
theorem wq_827 : Cond.methodLink "TrellistagModel" 78 ⟨"TrellistagModel", "takes", "()I"⟩ ∈ w_all := w_in 827 (by decide +kernel) (by decide +kernel)
theorem wq_829 : Cond.instanceMethod ⟨"TrellistagModel", "takes", "()I"⟩ ∈ w_all := w_in 829 (by decide +kernel) (by decide +kernel)
theorem wq_831 : Cond.methodLink "TrellistagLaw" 83 ⟨"TrellistagModel", "add", "()I"⟩ ∈ w_all := w_in 831 (by decide +kernel) (by decide +kernel)
theorem wq_832 : Cond.instanceMethod ⟨"TrellistagModel", "add", "()I"⟩ ∈ w_all := w_in 832 (by decide +kernel) (by decide +kernel)
theorem wq_833 : Cond.selects "TrellistagModel" ⟨"TrellistagModel", "add", "()I"⟩ ⟨"TrellistagModel", "add", "()I"⟩ ∈ w_all := w_in 833 (by decide +kernel) (by decide +kernel)
theorem wq_835 : Cond.methodLink "TrellistagLaw" 87 ⟨"TrellistagModel", "text", "(IZ)Z"⟩ ∈ w_all := w_in 835 (by decide +kernel) (by decide +kernel)
theorem wq_836 : Cond.instanceMethod ⟨"TrellistagModel", "text", "(IZ)Z"⟩ ∈ w_all := w_in 836 (by decide +kernel) (by decide +kernel)
theorem wq_837 : Cond.selects "TrellistagModel" ⟨"TrellistagModel", "text", "(IZ)Z"⟩ ⟨"TrellistagModel", "text", "(IZ)Z"⟩ ∈ w_all := w_in 837 (by decide +kernel) (by decide +kernel)
theorem wq_839 : Cond.methodLink "TrellistagLaw" 90 ⟨"TrellistagModel", "word", "()I"⟩ ∈ w_all := w_in 839 (by decide +kernel) (by decide +kernel)
theorem wq_840 : Cond.instanceMethod ⟨"TrellistagModel", "word", "()I"⟩ ∈ w_all := w_in 840 (by decide +kernel) (by decide +kernel)
theorem wq_841 : Cond.selects "TrellistagModel" ⟨"TrellistagModel", "word", "()I"⟩ ⟨"TrellistagModel", "word", "()I"⟩ ∈ w_all := w_in 841 (by decide +kernel) (by decide +kernel)
theorem wq_843 : Cond.methodLink "TrellistagLaw" 94 ⟨"TrellistagModel", "clear", "()I"⟩ ∈ w_all := w_in 843 (by decide +kernel) (by decide +kernel)
theorem wq_844 : Cond.instanceMethod ⟨"TrellistagModel", "clear", "()I"⟩ ∈ w_all := w_in 844 (by decide +kernel) (by decide +kernel)
theorem wq_845 : Cond.selects "TrellistagModel" ⟨"TrellistagModel", "clear", "()I"⟩ ⟨"TrellistagModel", "clear", "()I"⟩ ∈ w_all := w_in 845 (by decide +kernel) (by decide +kernel)
theorem wq_847 : Cond.methodLink "TrellistagLaw" 98 ⟨"TrellistagModel", "lock", "(II)I"⟩ ∈ w_all := w_in 847 (by decide +kernel) (by decide +kernel)
theorem wq_848 : Cond.instanceMethod ⟨"TrellistagModel", "lock", "(II)I"⟩ ∈ w_all := w_in 848 (by decide +kernel) (by decide +kernel)
theorem wq_849 : Cond.selects "TrellistagModel" ⟨"TrellistagModel", "lock", "(II)I"⟩ ⟨"TrellistagModel", "lock", "(II)I"⟩ ∈ w_all := w_in 849 (by decide +kernel) (by decide +kernel)
theorem wq_851 : Cond.methodLink "TrellistagModel" 85 ⟨"TrellistagModel", "isPlace", "(I)Z"⟩ ∈ w_all := w_in 851 (by decide +kernel) (by decide +kernel)
theorem wq_853 : Cond.instanceMethod ⟨"TrellistagModel", "isPlace", "(I)Z"⟩ ∈ w_all := w_in 853 (by decide +kernel) (by decide +kernel)
theorem wq_855 : Cond.methodLink "TrellistagLaw" 101 ⟨"TrellistagModel", "weight", "(I)I"⟩ ∈ w_all := w_in 855 (by decide +kernel) (by decide +kernel)
theorem wq_856 : Cond.instanceMethod ⟨"TrellistagModel", "weight", "(I)I"⟩ ∈ w_all := w_in 856 (by decide +kernel) (by decide +kernel)
theorem wq_857 : Cond.selects "TrellistagModel" ⟨"TrellistagModel", "weight", "(I)I"⟩ ⟨"TrellistagModel", "weight", "(I)I"⟩ ∈ w_all := w_in 857 (by decide +kernel) (by decide +kernel)
theorem wq_859 : Cond.methodLink "TrellistagModel" 99 ⟨"TrellistagModel", "weightFor", "(II)I"⟩ ∈ w_all := w_in 859 (by decide +kernel) (by decide +kernel)
theorem wq_861 : Cond.instanceMethod ⟨"TrellistagModel", "weightFor", "(II)I"⟩ ∈ w_all := w_in 861 (by decide +kernel) (by decide +kernel)
theorem wq_863 : Cond.constant "TrellistagModel" 88 (387420489 : Int32) ∈ w_all := w_in 863 (by decide +kernel) (by decide +kernel)
theorem wq_864 : Cond.methodLink "TrellistagModel" 89 ⟨"TrellistagModel", "often", "(III)I"⟩ ∈ w_all := w_in 864 (by decide +kernel) (by decide +kernel)
theorem wq_866 : Cond.instanceMethod ⟨"TrellistagModel", "often", "(III)I"⟩ ∈ w_all := w_in 866 (by decide +kernel) (by decide +kernel)
theorem wq_868 : Cond.methodLink "TrellistagModel" 93 ⟨"TrellistagModel", "atMost", "(II)I"⟩ ∈ w_all := w_in 868 (by decide +kernel) (by decide +kernel)
theorem wq_869 : Cond.static ⟨"TrellistagModel", "atMost", "(II)I"⟩ ∈ w_all := w_in 869 (by decide +kernel) (by decide +kernel)
theorem wq_871 : Cond.constantLong "TrellistagModel" 97 (27 : Int64) ∈ w_all := w_in 871 (by decide +kernel) (by decide +kernel)
theorem wq_872 : Cond.methodLink "TrellistagLaw" 104 ⟨"TrellistagModel", "step", "(II)I"⟩ ∈ w_all := w_in 872 (by decide +kernel) (by decide +kernel)
theorem wq_873 : Cond.instanceMethod ⟨"TrellistagModel", "step", "(II)I"⟩ ∈ w_all := w_in 873 (by decide +kernel) (by decide +kernel)
theorem wq_874 : Cond.selects "TrellistagModel" ⟨"TrellistagModel", "step", "(II)I"⟩ ⟨"TrellistagModel", "step", "(II)I"⟩ ∈ w_all := w_in 874 (by decide +kernel) (by decide +kernel)
theorem wq_876 : Cond.methodLink "TrellistagModel" 102 ⟨"TrellistagModel", "weightOf", "(II)I"⟩ ∈ w_all := w_in 876 (by decide +kernel) (by decide +kernel)
theorem wq_878 : Cond.instanceMethod ⟨"TrellistagModel", "weightOf", "(II)I"⟩ ∈ w_all := w_in 878 (by decide +kernel) (by decide +kernel)
theorem wq_880 : Cond.methodLink "TrellistagLaw" 107 ⟨"TrellistagModel", "path", "(II)I"⟩ ∈ w_all := w_in 880 (by decide +kernel) (by decide +kernel)
theorem wq_881 : Cond.instanceMethod ⟨"TrellistagModel", "path", "(II)I"⟩ ∈ w_all := w_in 881 (by decide +kernel) (by decide +kernel)
theorem wq_882 : Cond.selects "TrellistagModel" ⟨"TrellistagModel", "path", "(II)I"⟩ ⟨"TrellistagModel", "path", "(II)I"⟩ ∈ w_all := w_in 882 (by decide +kernel) (by decide +kernel)
theorem wq_884 : Cond.methodLink "TrellistagModel" 135 ⟨"TrellistagModel", "onPath", "(II)I"⟩ ∈ w_all := w_in 884 (by decide +kernel) (by decide +kernel)
theorem wq_886 : Cond.instanceMethod ⟨"TrellistagModel", "onPath", "(II)I"⟩ ∈ w_all := w_in 886 (by decide +kernel) (by decide +kernel)
theorem wq_888 : Cond.methodLink "TrellistagModel" 128 ⟨"TrellistagModel", "isRank", "(I)Z"⟩ ∈ w_all := w_in 888 (by decide +kernel) (by decide +kernel)
theorem wq_889 : Cond.static ⟨"TrellistagModel", "isRank", "(I)Z"⟩ ∈ w_all := w_in 889 (by decide +kernel) (by decide +kernel)
theorem wq_891 : Cond.methodLink "TrellistagModel" 131 ⟨"TrellistagModel", "goes", "(II)V"⟩ ∈ w_all := w_in 891 (by decide +kernel) (by decide +kernel)
theorem wq_893 : Cond.instanceMethod ⟨"TrellistagModel", "goes", "(II)V"⟩ ∈ w_all := w_in 893 (by decide +kernel) (by decide +kernel)
theorem wq_895 : Cond.methodLink "TrellistagModel" 108 ⟨"TrellistagModel", "lays", "()V"⟩ ∈ w_all := w_in 895 (by decide +kernel) (by decide +kernel)
theorem wq_897 : Cond.instanceMethod ⟨"TrellistagModel", "lays", "()V"⟩ ∈ w_all := w_in 897 (by decide +kernel) (by decide +kernel)
theorem wq_899 : Cond.methodLink "TrellistagModel" 121 ⟨"TrellistagModel", "paths", "()I"⟩ ∈ w_all := w_in 899 (by decide +kernel) (by decide +kernel)
theorem wq_901 : Cond.instanceMethod ⟨"TrellistagModel", "paths", "()I"⟩ ∈ w_all := w_in 901 (by decide +kernel) (by decide +kernel)
theorem wq_903 : Cond.methodLink "TrellistagModel" 124 ⟨"TrellistagModel", "weightOfPath", "(I)J"⟩ ∈ w_all := w_in 903 (by decide +kernel) (by decide +kernel)
theorem wq_905 : Cond.instanceMethod ⟨"TrellistagModel", "weightOfPath", "(I)J"⟩ ∈ w_all := w_in 905 (by decide +kernel) (by decide +kernel)
theorem wq_907 : Cond.methodLink "TrellistagModel" 105 ⟨"TrellistagModel", "tagAt", "(II)I"⟩ ∈ w_all := w_in 907 (by decide +kernel) (by decide +kernel)
theorem wq_909 : Cond.instanceMethod ⟨"TrellistagModel", "tagAt", "(II)I"⟩ ∈ w_all := w_in 909 (by decide +kernel) (by decide +kernel)
theorem wq_911 : Cond.methodLink "TrellistagLaw" 110 ⟨"TrellistagModel", "pathAnew", "(II)I"⟩ ∈ w_all := w_in 911 (by decide +kernel) (by decide +kernel)
theorem wq_912 : Cond.instanceMethod ⟨"TrellistagModel", "pathAnew", "(II)I"⟩ ∈ w_all := w_in 912 (by decide +kernel) (by decide +kernel)
theorem wq_913 : Cond.selects "TrellistagModel" ⟨"TrellistagModel", "pathAnew", "(II)I"⟩ ⟨"TrellistagModel", "pathAnew", "(II)I"⟩ ∈ w_all := w_in 913 (by decide +kernel) (by decide +kernel)
theorem wq_915 : Cond.methodLink "TrellistagLaw" 113 ⟨"TrellistagModel", "product", "(I)J"⟩ ∈ w_all := w_in 915 (by decide +kernel) (by decide +kernel)
theorem wq_916 : Cond.instanceMethod ⟨"TrellistagModel", "product", "(I)J"⟩ ∈ w_all := w_in 916 (by decide +kernel) (by decide +kernel)
theorem wq_917 : Cond.selects "TrellistagModel" ⟨"TrellistagModel", "product", "(I)J"⟩ ⟨"TrellistagModel", "product", "(I)J"⟩ ∈ w_all := w_in 917 (by decide +kernel) (by decide +kernel)
theorem wq_919 : Cond.methodLink "TrellistagModel" 138 ⟨"TrellistagModel", "weightOfRank", "(I)J"⟩ ∈ w_all := w_in 919 (by decide +kernel) (by decide +kernel)
theorem wq_921 : Cond.instanceMethod ⟨"TrellistagModel", "weightOfRank", "(I)J"⟩ ∈ w_all := w_in 921 (by decide +kernel) (by decide +kernel)
theorem wq_923 : Cond.methodLink "TrellistagLaw" 116 ⟨"TrellistagModel", "cost", "()I"⟩ ∈ w_all := w_in 923 (by decide +kernel) (by decide +kernel)
theorem wq_924 : Cond.instanceMethod ⟨"TrellistagModel", "cost", "()I"⟩ ∈ w_all := w_in 924 (by decide +kernel) (by decide +kernel)
theorem wq_925 : Cond.selects "TrellistagModel" ⟨"TrellistagModel", "cost", "()I"⟩ ⟨"TrellistagModel", "cost", "()I"⟩ ∈ w_all := w_in 925 (by decide +kernel) (by decide +kernel)
theorem wq_927 : Cond.constantLong "TrellistagModel" 141 (1152921504606846975 : Int64) ∈ w_all := w_in 927 (by decide +kernel) (by decide +kernel)
theorem wq_928 : Cond.constantLong "TrellistagModel" 143 (2 : Int64) ∈ w_all := w_in 928 (by decide +kernel) (by decide +kernel)
theorem wq_929 : Cond.methodLink "TrellistagLaw" 119 ⟨"TrellistagModel", "share", "(II)I"⟩ ∈ w_all := w_in 929 (by decide +kernel) (by decide +kernel)
theorem wq_930 : Cond.instanceMethod ⟨"TrellistagModel", "share", "(II)I"⟩ ∈ w_all := w_in 930 (by decide +kernel) (by decide +kernel)
theorem wq_931 : Cond.selects "TrellistagModel" ⟨"TrellistagModel", "share", "(II)I"⟩ ⟨"TrellistagModel", "share", "(II)I"⟩ ∈ w_all := w_in 931 (by decide +kernel) (by decide +kernel)
theorem wq_933 : Cond.methodLink "TrellistagModel" 147 ⟨"TrellistagModel", "shareOf", "(II)I"⟩ ∈ w_all := w_in 933 (by decide +kernel) (by decide +kernel)
theorem wq_935 : Cond.instanceMethod ⟨"TrellistagModel", "shareOf", "(II)I"⟩ ∈ w_all := w_in 935 (by decide +kernel) (by decide +kernel)
theorem wq_937 : Cond.constantLong "TrellistagModel" 145 (1000 : Int64) ∈ w_all := w_in 937 (by decide +kernel) (by decide +kernel)
theorem wq_938 : Cond.methodLink "TrellistagLaw" 122 ⟨"TrellistagModel", "shareAnew", "(II)I"⟩ ∈ w_all := w_in 938 (by decide +kernel) (by decide +kernel)
theorem wq_939 : Cond.instanceMethod ⟨"TrellistagModel", "shareAnew", "(II)I"⟩ ∈ w_all := w_in 939 (by decide +kernel) (by decide +kernel)
theorem wq_940 : Cond.selects "TrellistagModel" ⟨"TrellistagModel", "shareAnew", "(II)I"⟩ ⟨"TrellistagModel", "shareAnew", "(II)I"⟩ ∈ w_all := w_in 940 (by decide +kernel) (by decide +kernel)
theorem wq_942 : Cond.methodLink "TrellistagLaw" 126 ⟨"TrellistagModel", "texts", "()I"⟩ ∈ w_all := w_in 942 (by decide +kernel) (by decide +kernel)
theorem wq_943 : Cond.instanceMethod ⟨"TrellistagModel", "texts", "()I"⟩ ∈ w_all := w_in 943 (by decide +kernel) (by decide +kernel)
theorem wq_944 : Cond.selects "TrellistagModel" ⟨"TrellistagModel", "texts", "()I"⟩ ⟨"TrellistagModel", "texts", "()I"⟩ ∈ w_all := w_in 944 (by decide +kernel) (by decide +kernel)
section SOG
variable {P : Nat → mMD} {B b L : Nat} {xs : Nat → Int32} {D : va_G} {aC : Nat → ClassId} {p : Program} {l : Launch} {e : Env} {R : Room} {s : State} {m : MethodId} {args : Array Value} {below : List Frame} {meth : Method} {c : Code} {md : mMD} {d c0 s0 : Nat} {Q : State → Prop} {pc : Nat}

theorem so_mna_i {index : Nat} (X : Cx B b L xs D aC p l R s m args meth c md d) (hw1 : Cond.classLink (dY md).cls index "[[I" ∈ w_all) (hd : decode (dB md) pc = .ok (.multianewarray index 2, 4)) : SO P B b L xs D aC p l e R s m args below meth c md d c0 s0 Q pc (mo_mna 4 1 (pc + 4)) := by
  have e9 : "[" ++ (FieldType.array .int).toString = "[[I" := by decide +kernel
  refine so_mna (t := 4) (t1 := 1) (ty := .int) (z := fun K => (K, .inl (fun _ => 0))) X (by omega) (by omega) rfl rfl (by simp [w_over]) (by decide +kernel) (by rw [e9]; exact hw1) wq_103 (by decide +kernel) (by decide +kernel) (by decide +kernel) (fun c K => arrV_new c K _) (fun h H N K j hH hj => ?_) hd
  rw [oe_1 (by rw [rw_K1 hH hj])]
  have e8 : (mK (rowsOf h 4 1 N K) (mN h + 1 + j)).2 = K := by rw [rw_K1 hH hj]
  rw [e8]
  have e7 : (fun i => Int32.ofInt ((rowsOf h 4 1 N K).2 (mN h + 1 + j) i)) = fun _ => (0 : Int32) := by
    funext i; rw [rw_M1 hH]; rfl
  rw [e7]
theorem so_mna_j {index : Nat} (X : Cx B b L xs D aC p l R s m args meth c md d) (hw1 : Cond.classLink (dY md).cls index "[[J" ∈ w_all) (hd : decode (dB md) pc = .ok (.multianewarray index 2, 4)) : SO P B b L xs D aC p l e R s m args below meth c md d c0 s0 Q pc (mo_mna 5 2 (pc + 4)) := by
  have e9 : "[" ++ (FieldType.array .long).toString = "[[J" := by decide +kernel
  refine so_mna (t := 5) (t1 := 2) (ty := .long) (z := fun K => (K, .inr (.inl (fun _ => 0)))) X (by omega) (by omega) rfl rfl (by simp [w_over]) (by decide +kernel) (by rw [e9]; exact hw1) wq_184 (by decide +kernel) (by decide +kernel) (by decide +kernel) (fun c K => arrV_new c K _) (fun h H N K j hH hj => ?_) hd
  rw [oe_2 (by rw [rw_K1 hH hj])]
  have e8 : (mK (rowsOf h 5 2 N K) (mN h + 1 + j)).2 = K := by rw [rw_K1 hH hj]
  rw [e8]
  have e7 : (fun i => Int64.ofInt ((rowsOf h 5 2 N K).2 (mN h + 1 + j) i)) = fun _ => (0 : Int64) := by
    funext i; rw [rw_M1 hH]; rfl
  rw [e7]
end SOG
def SJ (L : Nat) (xs : Nat → Int32) (md : mMD) (q : Nat × mOP) : Prop := ∀ (B b : Nat) (D : va_G) (aC : Nat → ClassId) (p : Program) (l : Launch) (e : Env) (R : Room) (s : State) (m : MethodId) (args : Array Value) (below : List Frame) (meth : Method) (c : Code) (d c0 s0 : Nat) (Q : State → Prop), Cx B b L xs D aC p l R s m args meth c md d → SO (PP L xs) B b L xs D aC p l e R s m args below meth c md d c0 s0 Q q.1 q.2
