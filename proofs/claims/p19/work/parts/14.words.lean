/-! ===== the words that the methods use, by their places; the methods are sound, op by op: written by a program ===== -/
theorem wq_objinit : Cond.code Lib.objectInit ⟨#[0xb1]⟩ 1 none ∈ w_all := w_in 43 (by decide +kernel) (by decide +kernel)
theorem wq_min : Cond.code Lib.Math.min.name Lib.Math.min.code 2 (some .int) ∈ w_all := w_in 356 (by decide +kernel) (by decide +kernel)
theorem ws_X0_countPaths : Cond.selects "Trellistag$AllPaths" ⟨"Trellistag$AllPaths", "countPaths", "()I"⟩ ⟨"Trellistag$AllPaths", "countPaths", "()I"⟩ ∈ w_all := w_in 4 (by decide +kernel) (by decide +kernel)
theorem ws_X0_goOn : Cond.selects "Trellistag$AllPaths" ⟨"Trellistag$AllPaths", "goOn", "()V"⟩ ⟨"Trellistag$AllPaths", "goOn", "()V"⟩ ∈ w_all := w_in 8 (by decide +kernel) (by decide +kernel)
theorem ws_X0_startWalk : Cond.selects "Trellistag$AllPaths" ⟨"Trellistag$AllPaths", "startWalk", "()V"⟩ ⟨"Trellistag$AllPaths", "startWalk", "()V"⟩ ∈ w_all := w_in 5 (by decide +kernel) (by decide +kernel)
theorem ws_X0_weighFrom : Cond.selects "Trellistag$AllPaths" ⟨"Trellistag$AllPaths", "weighFrom", "(I)V"⟩ ⟨"Trellistag$AllPaths", "weighFrom", "(I)V"⟩ ∈ w_all := w_in 6 (by decide +kernel) (by decide +kernel)
theorem ws_X1_change : Cond.selects "Trellistag$Corpus" ⟨"Trellistag$Corpus", "change", "(LTrellistag$Text;I)V"⟩ ⟨"Trellistag$Corpus", "change", "(LTrellistag$Text;I)V"⟩ ∈ w_all := w_in 12 (by decide +kernel) (by decide +kernel)
theorem ws_X2_ruleOut : Cond.selects "Trellistag$Lattice" ⟨"Trellistag$Lattice", "ruleOut", "(I)V"⟩ ⟨"Trellistag$Lattice", "ruleOut", "(I)V"⟩ ∈ w_all := w_in 3 (by decide +kernel) (by decide +kernel)
theorem ws_X4_insert : Cond.selects "Trellistag$Ranking" ⟨"Trellistag$Ranking", "insert", "(IJI)V"⟩ ⟨"Trellistag$Ranking", "insert", "(IJI)V"⟩ ∈ w_all := w_in 7 (by decide +kernel) (by decide +kernel)
theorem ws_X7_rankUpTo : Cond.selects "Trellistag$Trellis" ⟨"Trellistag$Trellis", "rankUpTo", "(II)V"⟩ ⟨"Trellistag$Trellis", "rankUpTo", "(II)V"⟩ ∈ w_all := w_in 9 (by decide +kernel) (by decide +kernel)
theorem ws_X7_rankingAt : Cond.selects "Trellistag$Trellis" ⟨"Trellistag$Trellis", "rankingAt", "(II)LTrellistag$Ranking;"⟩ ⟨"Trellistag$Trellis", "rankingAt", "(II)LTrellistag$Ranking;"⟩ ∈ w_all := w_in 10 (by decide +kernel) (by decide +kernel)
theorem ws_X7_sumAhead : Cond.selects "Trellistag$Trellis" ⟨"Trellistag$Trellis", "sumAhead", "(II)J"⟩ ⟨"Trellistag$Trellis", "sumAhead", "(II)J"⟩ ∈ w_all := w_in 16 (by decide +kernel) (by decide +kernel)
theorem ws_X7_sumBehind : Cond.selects "Trellistag$Trellis" ⟨"Trellistag$Trellis", "sumBehind", "(II)J"⟩ ⟨"Trellistag$Trellis", "sumBehind", "(II)J"⟩ ∈ w_all := w_in 17 (by decide +kernel) (by decide +kernel)
theorem ws_X9_rankPaths : Cond.selects "Trellistag" ⟨"Trellistag", "rankPaths", "(LTrellistag$PathFinder;)V"⟩ ⟨"Trellistag", "rankPaths", "(LTrellistag$PathFinder;)V"⟩ ∈ w_all := w_in 2 (by decide +kernel) (by decide +kernel)
theorem ws_X9_requirePlace : Cond.selects "Trellistag" ⟨"Trellistag", "requirePlace", "(I)V"⟩ ⟨"Trellistag", "requirePlace", "(I)V"⟩ ∈ w_all := w_in 13 (by decide +kernel) (by decide +kernel)
theorem ws_X9_requireSentence : Cond.selects "Trellistag" ⟨"Trellistag", "requireSentence", "()V"⟩ ⟨"Trellistag", "requireSentence", "()V"⟩ ∈ w_all := w_in 1 (by decide +kernel) (by decide +kernel)
theorem ws_X9_requireTyped : Cond.selects "Trellistag" ⟨"Trellistag", "requireTyped", "()V"⟩ ⟨"Trellistag", "requireTyped", "()V"⟩ ∈ w_all := w_in 11 (by decide +kernel) (by decide +kernel)
theorem ws_X9_shareOfTag : Cond.selects "Trellistag" ⟨"Trellistag", "shareOfTag", "(LTrellistag$PathFinder;II)I"⟩ ⟨"Trellistag", "shareOfTag", "(LTrellistag$PathFinder;II)I"⟩ ∈ w_all := w_in 15 (by decide +kernel) (by decide +kernel)
theorem ws_X9_tagOnPath : Cond.selects "Trellistag" ⟨"Trellistag", "tagOnPath", "(LTrellistag$PathFinder;II)I"⟩ ⟨"Trellistag", "tagOnPath", "(LTrellistag$PathFinder;II)I"⟩ ∈ w_all := w_in 14 (by decide +kernel) (by decide +kernel)
theorem we_0 : w_ex "Trellistag" 73 0 = true := by decide +kernel
theorem we_1 : w_ex "Trellistag" 84 1 = true := by decide +kernel
theorem we_2 : w_ex "Trellistag" 131 2 = true := by decide +kernel
theorem wc_0 {L : Nat} {xs : Nat → Int32} : wC (PP L xs 0) ∈ w_all := show wC md_0 ∈ w_all from w_in 187 (by decide +kernel) (by decide +kernel)
theorem wd_0 : (dY md_0).cls ≠ "java/lang/invoke/MethodHandle" ∧ (dY md_0).cls ≠ "java/lang/invoke/VarHandle" ∧ (parseMethodDescriptor (dY md_0).desc).map (fun d => d.parameters.length) = some 1 := ⟨by decide +kernel, by decide +kernel, by decide +kernel⟩
theorem wc_1 {L : Nat} {xs : Nat → Int32} : wC (PP L xs 1) ∈ w_all := show wC md_1 ∈ w_all from w_in 395 (by decide +kernel) (by decide +kernel)
theorem wd_1 : (dY md_1).cls ≠ "java/lang/invoke/MethodHandle" ∧ (dY md_1).cls ≠ "java/lang/invoke/VarHandle" ∧ (parseMethodDescriptor (dY md_1).desc).map (fun d => d.parameters.length) = some 1 := ⟨by decide +kernel, by decide +kernel, by decide +kernel⟩
theorem wc_2 {L : Nat} {xs : Nat → Int32} : wC (PP L xs 2) ∈ w_all := show wC md_2 ∈ w_all from w_in 657 (by decide +kernel) (by decide +kernel)
theorem wd_2 : (dY md_2).cls ≠ "java/lang/invoke/MethodHandle" ∧ (dY md_2).cls ≠ "java/lang/invoke/VarHandle" ∧ (parseMethodDescriptor (dY md_2).desc).map (fun d => d.parameters.length) = some 2 := ⟨by decide +kernel, by decide +kernel, by decide +kernel⟩
theorem wc_3 {L : Nat} {xs : Nat → Int32} : wC (PP L xs 3) ∈ w_all := show wC md_3 ∈ w_all from w_in 403 (by decide +kernel) (by decide +kernel)
theorem wd_3 : (dY md_3).cls ≠ "java/lang/invoke/MethodHandle" ∧ (dY md_3).cls ≠ "java/lang/invoke/VarHandle" ∧ (parseMethodDescriptor (dY md_3).desc).map (fun d => d.parameters.length) = some 0 := ⟨by decide +kernel, by decide +kernel, by decide +kernel⟩
theorem wc_4 {L : Nat} {xs : Nat → Int32} : wC (PP L xs 4) ∈ w_all := show wC md_4 ∈ w_all from w_in 407 (by decide +kernel) (by decide +kernel)
theorem wd_4 : (dY md_4).cls ≠ "java/lang/invoke/MethodHandle" ∧ (dY md_4).cls ≠ "java/lang/invoke/VarHandle" ∧ (parseMethodDescriptor (dY md_4).desc).map (fun d => d.parameters.length) = some 0 := ⟨by decide +kernel, by decide +kernel, by decide +kernel⟩
theorem wc_5 {L : Nat} {xs : Nat → Int32} : wC (PP L xs 5) ∈ w_all := show wC md_5 ∈ w_all from w_in 430 (by decide +kernel) (by decide +kernel)
theorem wd_5 : (dY md_5).cls ≠ "java/lang/invoke/MethodHandle" ∧ (dY md_5).cls ≠ "java/lang/invoke/VarHandle" ∧ (parseMethodDescriptor (dY md_5).desc).map (fun d => d.parameters.length) = some 0 := ⟨by decide +kernel, by decide +kernel, by decide +kernel⟩
theorem wc_6 {L : Nat} {xs : Nat → Int32} : wC (PP L xs 6) ∈ w_all := show wC md_6 ∈ w_all from w_in 411 (by decide +kernel) (by decide +kernel)
theorem wd_6 : (dY md_6).cls ≠ "java/lang/invoke/MethodHandle" ∧ (dY md_6).cls ≠ "java/lang/invoke/VarHandle" ∧ (parseMethodDescriptor (dY md_6).desc).map (fun d => d.parameters.length) = some 1 := ⟨by decide +kernel, by decide +kernel, by decide +kernel⟩
theorem wc_7 {L : Nat} {xs : Nat → Int32} : wC (PP L xs 7) ∈ w_all := show wC md_7 ∈ w_all from w_in 61 (by decide +kernel) (by decide +kernel)
theorem wd_7 : (dY md_7).cls ≠ "java/lang/invoke/MethodHandle" ∧ (dY md_7).cls ≠ "java/lang/invoke/VarHandle" ∧ (parseMethodDescriptor (dY md_7).desc).map (fun d => d.parameters.length) = some 0 := ⟨by decide +kernel, by decide +kernel, by decide +kernel⟩
theorem wc_8 {L : Nat} {xs : Nat → Int32} : wC (PP L xs 8) ∈ w_all := show wC md_8 ∈ w_all from w_in 535 (by decide +kernel) (by decide +kernel)
theorem wd_8 : (dY md_8).cls ≠ "java/lang/invoke/MethodHandle" ∧ (dY md_8).cls ≠ "java/lang/invoke/VarHandle" ∧ (parseMethodDescriptor (dY md_8).desc).map (fun d => d.parameters.length) = some 0 := ⟨by decide +kernel, by decide +kernel, by decide +kernel⟩
theorem wc_9 {L : Nat} {xs : Nat → Int32} : wC (PP L xs 9) ∈ w_all := show wC md_9 ∈ w_all from w_in 561 (by decide +kernel) (by decide +kernel)
theorem wd_9 : (dY md_9).cls ≠ "java/lang/invoke/MethodHandle" ∧ (dY md_9).cls ≠ "java/lang/invoke/VarHandle" ∧ (parseMethodDescriptor (dY md_9).desc).map (fun d => d.parameters.length) = some 0 := ⟨by decide +kernel, by decide +kernel, by decide +kernel⟩
theorem wc_10 {L : Nat} {xs : Nat → Int32} : wC (PP L xs 10) ∈ w_all := show wC md_10 ∈ w_all from w_in 582 (by decide +kernel) (by decide +kernel)
theorem wd_10 : (dY md_10).cls ≠ "java/lang/invoke/MethodHandle" ∧ (dY md_10).cls ≠ "java/lang/invoke/VarHandle" ∧ (parseMethodDescriptor (dY md_10).desc).map (fun d => d.parameters.length) = some 1 := ⟨by decide +kernel, by decide +kernel, by decide +kernel⟩
theorem wc_11 {L : Nat} {xs : Nat → Int32} : wC (PP L xs 11) ∈ w_all := show wC md_11 ∈ w_all from w_in 475 (by decide +kernel) (by decide +kernel)
theorem wd_11 : (dY md_11).cls ≠ "java/lang/invoke/MethodHandle" ∧ (dY md_11).cls ≠ "java/lang/invoke/VarHandle" ∧ (parseMethodDescriptor (dY md_11).desc).map (fun d => d.parameters.length) = some 0 := ⟨by decide +kernel, by decide +kernel, by decide +kernel⟩
theorem wc_12 {L : Nat} {xs : Nat → Int32} : wC (PP L xs 12) ∈ w_all := show wC md_12 ∈ w_all from w_in 566 (by decide +kernel) (by decide +kernel)
theorem wd_12 : (dY md_12).cls ≠ "java/lang/invoke/MethodHandle" ∧ (dY md_12).cls ≠ "java/lang/invoke/VarHandle" ∧ (parseMethodDescriptor (dY md_12).desc).map (fun d => d.parameters.length) = some 0 := ⟨by decide +kernel, by decide +kernel, by decide +kernel⟩
theorem wc_13 {L : Nat} {xs : Nat → Int32} : wC (PP L xs 13) ∈ w_all := show wC md_13 ∈ w_all from w_in 570 (by decide +kernel) (by decide +kernel)
theorem wd_13 : (dY md_13).cls ≠ "java/lang/invoke/MethodHandle" ∧ (dY md_13).cls ≠ "java/lang/invoke/VarHandle" ∧ (parseMethodDescriptor (dY md_13).desc).map (fun d => d.parameters.length) = some 2 := ⟨by decide +kernel, by decide +kernel, by decide +kernel⟩
theorem wc_14 {L : Nat} {xs : Nat → Int32} : wC (PP L xs 14) ∈ w_all := show wC md_14 ∈ w_all from w_in 574 (by decide +kernel) (by decide +kernel)
theorem wd_14 : (dY md_14).cls ≠ "java/lang/invoke/MethodHandle" ∧ (dY md_14).cls ≠ "java/lang/invoke/VarHandle" ∧ (parseMethodDescriptor (dY md_14).desc).map (fun d => d.parameters.length) = some 2 := ⟨by decide +kernel, by decide +kernel, by decide +kernel⟩
theorem wc_15 {L : Nat} {xs : Nat → Int32} : wC (PP L xs 15) ∈ w_all := show wC md_15 ∈ w_all from w_in 350 (by decide +kernel) (by decide +kernel)
theorem wd_15 : (dY md_15).cls ≠ "java/lang/invoke/MethodHandle" ∧ (dY md_15).cls ≠ "java/lang/invoke/VarHandle" ∧ (parseMethodDescriptor (dY md_15).desc).map (fun d => d.parameters.length) = some 2 := ⟨by decide +kernel, by decide +kernel, by decide +kernel⟩
theorem wc_16 {L : Nat} {xs : Nat → Int32} : wC (PP L xs 16) ∈ w_all := show wC md_16 ∈ w_all from w_in 365 (by decide +kernel) (by decide +kernel)
theorem wd_16 : (dY md_16).cls ≠ "java/lang/invoke/MethodHandle" ∧ (dY md_16).cls ≠ "java/lang/invoke/VarHandle" ∧ (parseMethodDescriptor (dY md_16).desc).map (fun d => d.parameters.length) = some 2 := ⟨by decide +kernel, by decide +kernel, by decide +kernel⟩
theorem wc_17 {L : Nat} {xs : Nat → Int32} : wC (PP L xs 17) ∈ w_all := show wC md_17 ∈ w_all from w_in 377 (by decide +kernel) (by decide +kernel)
theorem wd_17 : (dY md_17).cls ≠ "java/lang/invoke/MethodHandle" ∧ (dY md_17).cls ≠ "java/lang/invoke/VarHandle" ∧ (parseMethodDescriptor (dY md_17).desc).map (fun d => d.parameters.length) = some 1 := ⟨by decide +kernel, by decide +kernel, by decide +kernel⟩
theorem wc_18 {L : Nat} {xs : Nat → Int32} : wC (PP L xs 18) ∈ w_all := show wC md_18 ∈ w_all from w_in 371 (by decide +kernel) (by decide +kernel)
theorem wd_18 : (dY md_18).cls ≠ "java/lang/invoke/MethodHandle" ∧ (dY md_18).cls ≠ "java/lang/invoke/VarHandle" ∧ (parseMethodDescriptor (dY md_18).desc).map (fun d => d.parameters.length) = some 4 := ⟨by decide +kernel, by decide +kernel, by decide +kernel⟩
theorem wc_19 {L : Nat} {xs : Nat → Int32} : wC (PP L xs 19) ∈ w_all := show wC md_19 ∈ w_all from w_in 374 (by decide +kernel) (by decide +kernel)
theorem wd_19 : (dY md_19).cls ≠ "java/lang/invoke/MethodHandle" ∧ (dY md_19).cls ≠ "java/lang/invoke/VarHandle" ∧ (parseMethodDescriptor (dY md_19).desc).map (fun d => d.parameters.length) = some 2 := ⟨by decide +kernel, by decide +kernel, by decide +kernel⟩
theorem wc_20 {L : Nat} {xs : Nat → Int32} : wC (PP L xs 20) ∈ w_all := show wC md_20 ∈ w_all from w_in 368 (by decide +kernel) (by decide +kernel)
theorem wd_20 : (dY md_20).cls ≠ "java/lang/invoke/MethodHandle" ∧ (dY md_20).cls ≠ "java/lang/invoke/VarHandle" ∧ (parseMethodDescriptor (dY md_20).desc).map (fun d => d.parameters.length) = some 1 := ⟨by decide +kernel, by decide +kernel, by decide +kernel⟩
theorem wc_21 {L : Nat} {xs : Nat → Int32} : wC (PP L xs 21) ∈ w_all := show wC md_21 ∈ w_all from w_in 125 (by decide +kernel) (by decide +kernel)
theorem wd_21 : (dY md_21).cls ≠ "java/lang/invoke/MethodHandle" ∧ (dY md_21).cls ≠ "java/lang/invoke/VarHandle" ∧ (parseMethodDescriptor (dY md_21).desc).map (fun d => d.parameters.length) = some 2 := ⟨by decide +kernel, by decide +kernel, by decide +kernel⟩
theorem wc_22 {L : Nat} {xs : Nat → Int32} : wC (PP L xs 22) ∈ w_all := show wC md_22 ∈ w_all from w_in 399 (by decide +kernel) (by decide +kernel)
theorem wd_22 : (dY md_22).cls ≠ "java/lang/invoke/MethodHandle" ∧ (dY md_22).cls ≠ "java/lang/invoke/VarHandle" ∧ (parseMethodDescriptor (dY md_22).desc).map (fun d => d.parameters.length) = some 0 := ⟨by decide +kernel, by decide +kernel, by decide +kernel⟩
theorem wc_23 {L : Nat} {xs : Nat → Int32} : wC (PP L xs 23) ∈ w_all := show wC md_23 ∈ w_all from w_in 346 (by decide +kernel) (by decide +kernel)
theorem wd_23 : (dY md_23).cls ≠ "java/lang/invoke/MethodHandle" ∧ (dY md_23).cls ≠ "java/lang/invoke/VarHandle" ∧ (parseMethodDescriptor (dY md_23).desc).map (fun d => d.parameters.length) = some 0 := ⟨by decide +kernel, by decide +kernel, by decide +kernel⟩
theorem wc_24 {L : Nat} {xs : Nat → Int32} : wC (PP L xs 24) ∈ w_all := show wC md_24 ∈ w_all from w_in 381 (by decide +kernel) (by decide +kernel)
theorem wd_24 : (dY md_24).cls ≠ "java/lang/invoke/MethodHandle" ∧ (dY md_24).cls ≠ "java/lang/invoke/VarHandle" ∧ (parseMethodDescriptor (dY md_24).desc).map (fun d => d.parameters.length) = some 1 := ⟨by decide +kernel, by decide +kernel, by decide +kernel⟩
theorem wc_25 {L : Nat} {xs : Nat → Int32} : wC (PP L xs 25) ∈ w_all := show wC md_25 ∈ w_all from w_in 415 (by decide +kernel) (by decide +kernel)
theorem wd_25 : (dY md_25).cls ≠ "java/lang/invoke/MethodHandle" ∧ (dY md_25).cls ≠ "java/lang/invoke/VarHandle" ∧ (parseMethodDescriptor (dY md_25).desc).map (fun d => d.parameters.length) = some 3 := ⟨by decide +kernel, by decide +kernel, by decide +kernel⟩
theorem wc_26 {L : Nat} {xs : Nat → Int32} : wC (PP L xs 26) ∈ w_all := show wC md_26 ∈ w_all from w_in 148 (by decide +kernel) (by decide +kernel)
theorem wd_26 : (dY md_26).cls ≠ "java/lang/invoke/MethodHandle" ∧ (dY md_26).cls ≠ "java/lang/invoke/VarHandle" ∧ (parseMethodDescriptor (dY md_26).desc).map (fun d => d.parameters.length) = some 0 := ⟨by decide +kernel, by decide +kernel, by decide +kernel⟩
theorem wc_27 {L : Nat} {xs : Nat → Int32} : wC (PP L xs 27) ∈ w_all := show wC md_27 ∈ w_all from w_in 157 (by decide +kernel) (by decide +kernel)
theorem wd_27 : (dY md_27).cls ≠ "java/lang/invoke/MethodHandle" ∧ (dY md_27).cls ≠ "java/lang/invoke/VarHandle" ∧ (parseMethodDescriptor (dY md_27).desc).map (fun d => d.parameters.length) = some 0 := ⟨by decide +kernel, by decide +kernel, by decide +kernel⟩
theorem wc_28 {L : Nat} {xs : Nat → Int32} : wC (PP L xs 28) ∈ w_all := show wC md_28 ∈ w_all from w_in 389 (by decide +kernel) (by decide +kernel)
theorem wd_28 : (dY md_28).cls ≠ "java/lang/invoke/MethodHandle" ∧ (dY md_28).cls ≠ "java/lang/invoke/VarHandle" ∧ (parseMethodDescriptor (dY md_28).desc).map (fun d => d.parameters.length) = some 0 := ⟨by decide +kernel, by decide +kernel, by decide +kernel⟩
theorem wc_29 {L : Nat} {xs : Nat → Int32} : wC (PP L xs 29) ∈ w_all := show wC md_29 ∈ w_all from w_in 422 (by decide +kernel) (by decide +kernel)
theorem wd_29 : (dY md_29).cls ≠ "java/lang/invoke/MethodHandle" ∧ (dY md_29).cls ≠ "java/lang/invoke/VarHandle" ∧ (parseMethodDescriptor (dY md_29).desc).map (fun d => d.parameters.length) = some 2 := ⟨by decide +kernel, by decide +kernel, by decide +kernel⟩
theorem wc_30 {L : Nat} {xs : Nat → Int32} : wC (PP L xs 30) ∈ w_all := show wC md_30 ∈ w_all from w_in 426 (by decide +kernel) (by decide +kernel)
theorem wd_30 : (dY md_30).cls ≠ "java/lang/invoke/MethodHandle" ∧ (dY md_30).cls ≠ "java/lang/invoke/VarHandle" ∧ (parseMethodDescriptor (dY md_30).desc).map (fun d => d.parameters.length) = some 3 := ⟨by decide +kernel, by decide +kernel, by decide +kernel⟩
theorem wc_31 {L : Nat} {xs : Nat → Int32} : wC (PP L xs 31) ∈ w_all := show wC md_31 ∈ w_all from w_in 455 (by decide +kernel) (by decide +kernel)
theorem wd_31 : (dY md_31).cls ≠ "java/lang/invoke/MethodHandle" ∧ (dY md_31).cls ≠ "java/lang/invoke/VarHandle" ∧ (parseMethodDescriptor (dY md_31).desc).map (fun d => d.parameters.length) = some 1 := ⟨by decide +kernel, by decide +kernel, by decide +kernel⟩
theorem wc_32 {L : Nat} {xs : Nat → Int32} : wC (PP L xs 32) ∈ w_all := show wC md_32 ∈ w_all from w_in 449 (by decide +kernel) (by decide +kernel)
theorem wd_32 : (dY md_32).cls ≠ "java/lang/invoke/MethodHandle" ∧ (dY md_32).cls ≠ "java/lang/invoke/VarHandle" ∧ (parseMethodDescriptor (dY md_32).desc).map (fun d => d.parameters.length) = some 3 := ⟨by decide +kernel, by decide +kernel, by decide +kernel⟩
theorem wc_33 {L : Nat} {xs : Nat → Int32} : wC (PP L xs 33) ∈ w_all := show wC md_33 ∈ w_all from w_in 459 (by decide +kernel) (by decide +kernel)
theorem wd_33 : (dY md_33).cls ≠ "java/lang/invoke/MethodHandle" ∧ (dY md_33).cls ≠ "java/lang/invoke/VarHandle" ∧ (parseMethodDescriptor (dY md_33).desc).map (fun d => d.parameters.length) = some 1 := ⟨by decide +kernel, by decide +kernel, by decide +kernel⟩
theorem wc_34 {L : Nat} {xs : Nat → Int32} : wC (PP L xs 34) ∈ w_all := show wC md_34 ∈ w_all from w_in 639 (by decide +kernel) (by decide +kernel)
theorem wd_34 : (dY md_34).cls ≠ "java/lang/invoke/MethodHandle" ∧ (dY md_34).cls ≠ "java/lang/invoke/VarHandle" ∧ (parseMethodDescriptor (dY md_34).desc).map (fun d => d.parameters.length) = some 2 := ⟨by decide +kernel, by decide +kernel, by decide +kernel⟩
theorem wc_35 {L : Nat} {xs : Nat → Int32} : wC (PP L xs 35) ∈ w_all := show wC md_35 ∈ w_all from w_in 418 (by decide +kernel) (by decide +kernel)
theorem wd_35 : (dY md_35).cls ≠ "java/lang/invoke/MethodHandle" ∧ (dY md_35).cls ≠ "java/lang/invoke/VarHandle" ∧ (parseMethodDescriptor (dY md_35).desc).map (fun d => d.parameters.length) = some 2 := ⟨by decide +kernel, by decide +kernel, by decide +kernel⟩
theorem wc_36 {L : Nat} {xs : Nat → Int32} : wC (PP L xs 36) ∈ w_all := show wC md_36 ∈ w_all from w_in 109 (by decide +kernel) (by decide +kernel)
theorem wd_36 : (dY md_36).cls ≠ "java/lang/invoke/MethodHandle" ∧ (dY md_36).cls ≠ "java/lang/invoke/VarHandle" ∧ (parseMethodDescriptor (dY md_36).desc).map (fun d => d.parameters.length) = some 0 := ⟨by decide +kernel, by decide +kernel, by decide +kernel⟩
theorem wc_37 {L : Nat} {xs : Nat → Int32} : wC (PP L xs 37) ∈ w_all := show wC md_37 ∈ w_all from w_in 322 (by decide +kernel) (by decide +kernel)
theorem wd_37 : (dY md_37).cls ≠ "java/lang/invoke/MethodHandle" ∧ (dY md_37).cls ≠ "java/lang/invoke/VarHandle" ∧ (parseMethodDescriptor (dY md_37).desc).map (fun d => d.parameters.length) = some 0 := ⟨by decide +kernel, by decide +kernel, by decide +kernel⟩
theorem wc_38 {L : Nat} {xs : Nat → Int32} : wC (PP L xs 38) ∈ w_all := show wC md_38 ∈ w_all from w_in 592 (by decide +kernel) (by decide +kernel)
theorem wd_38 : (dY md_38).cls ≠ "java/lang/invoke/MethodHandle" ∧ (dY md_38).cls ≠ "java/lang/invoke/VarHandle" ∧ (parseMethodDescriptor (dY md_38).desc).map (fun d => d.parameters.length) = some 0 := ⟨by decide +kernel, by decide +kernel, by decide +kernel⟩
theorem wc_39 {L : Nat} {xs : Nat → Int32} : wC (PP L xs 39) ∈ w_all := show wC md_39 ∈ w_all from w_in 597 (by decide +kernel) (by decide +kernel)
theorem wd_39 : (dY md_39).cls ≠ "java/lang/invoke/MethodHandle" ∧ (dY md_39).cls ≠ "java/lang/invoke/VarHandle" ∧ (parseMethodDescriptor (dY md_39).desc).map (fun d => d.parameters.length) = some 1 := ⟨by decide +kernel, by decide +kernel, by decide +kernel⟩
theorem wc_40 {L : Nat} {xs : Nat → Int32} : wC (PP L xs 40) ∈ w_all := show wC md_40 ∈ w_all from w_in 239 (by decide +kernel) (by decide +kernel)
theorem wd_40 : (dY md_40).cls ≠ "java/lang/invoke/MethodHandle" ∧ (dY md_40).cls ≠ "java/lang/invoke/VarHandle" ∧ (parseMethodDescriptor (dY md_40).desc).map (fun d => d.parameters.length) = some 0 := ⟨by decide +kernel, by decide +kernel, by decide +kernel⟩
theorem wc_41 {L : Nat} {xs : Nat → Int32} : wC (PP L xs 41) ∈ w_all := show wC md_41 ∈ w_all from w_in 361 (by decide +kernel) (by decide +kernel)
theorem wd_41 : (dY md_41).cls ≠ "java/lang/invoke/MethodHandle" ∧ (dY md_41).cls ≠ "java/lang/invoke/VarHandle" ∧ (parseMethodDescriptor (dY md_41).desc).map (fun d => d.parameters.length) = some 1 := ⟨by decide +kernel, by decide +kernel, by decide +kernel⟩
theorem wc_42 {L : Nat} {xs : Nat → Int32} : wC (PP L xs 42) ∈ w_all := show wC md_42 ∈ w_all from w_in 613 (by decide +kernel) (by decide +kernel)
theorem wd_42 : (dY md_42).cls ≠ "java/lang/invoke/MethodHandle" ∧ (dY md_42).cls ≠ "java/lang/invoke/VarHandle" ∧ (parseMethodDescriptor (dY md_42).desc).map (fun d => d.parameters.length) = some 2 := ⟨by decide +kernel, by decide +kernel, by decide +kernel⟩
theorem wc_43 {L : Nat} {xs : Nat → Int32} : wC (PP L xs 43) ∈ w_all := show wC md_43 ∈ w_all from w_in 385 (by decide +kernel) (by decide +kernel)
theorem wd_43 : (dY md_43).cls ≠ "java/lang/invoke/MethodHandle" ∧ (dY md_43).cls ≠ "java/lang/invoke/VarHandle" ∧ (parseMethodDescriptor (dY md_43).desc).map (fun d => d.parameters.length) = some 2 := ⟨by decide +kernel, by decide +kernel, by decide +kernel⟩
theorem wc_44 {L : Nat} {xs : Nat → Int32} : wC (PP L xs 44) ∈ w_all := show wC md_44 ∈ w_all from w_in 70 (by decide +kernel) (by decide +kernel)
theorem wd_44 : (dY md_44).cls ≠ "java/lang/invoke/MethodHandle" ∧ (dY md_44).cls ≠ "java/lang/invoke/VarHandle" ∧ (parseMethodDescriptor (dY md_44).desc).map (fun d => d.parameters.length) = some 0 := ⟨by decide +kernel, by decide +kernel, by decide +kernel⟩
theorem wc_45 {L : Nat} {xs : Nat → Int32} : wC (PP L xs 45) ∈ w_all := show wC md_45 ∈ w_all from w_in 556 (by decide +kernel) (by decide +kernel)
theorem wd_45 : (dY md_45).cls ≠ "java/lang/invoke/MethodHandle" ∧ (dY md_45).cls ≠ "java/lang/invoke/VarHandle" ∧ (parseMethodDescriptor (dY md_45).desc).map (fun d => d.parameters.length) = some 0 := ⟨by decide +kernel, by decide +kernel, by decide +kernel⟩
theorem wc_46 {L : Nat} {xs : Nat → Int32} : wC (PP L xs 46) ∈ w_all := show wC md_46 ∈ w_all from w_in 539 (by decide +kernel) (by decide +kernel)
theorem wd_46 : (dY md_46).cls ≠ "java/lang/invoke/MethodHandle" ∧ (dY md_46).cls ≠ "java/lang/invoke/VarHandle" ∧ (parseMethodDescriptor (dY md_46).desc).map (fun d => d.parameters.length) = some 0 := ⟨by decide +kernel, by decide +kernel, by decide +kernel⟩
theorem wc_47 {L : Nat} {xs : Nat → Int32} : wC (PP L xs 47) ∈ w_all := show wC md_47 ∈ w_all from w_in 548 (by decide +kernel) (by decide +kernel)
theorem wd_47 : (dY md_47).cls ≠ "java/lang/invoke/MethodHandle" ∧ (dY md_47).cls ≠ "java/lang/invoke/VarHandle" ∧ (parseMethodDescriptor (dY md_47).desc).map (fun d => d.parameters.length) = some 2 := ⟨by decide +kernel, by decide +kernel, by decide +kernel⟩
theorem wc_48 {L : Nat} {xs : Nat → Int32} : wC (PP L xs 48) ∈ w_all := show wC md_48 ∈ w_all from w_in 145 (by decide +kernel) (by decide +kernel)
theorem wd_48 : (dY md_48).cls ≠ "java/lang/invoke/MethodHandle" ∧ (dY md_48).cls ≠ "java/lang/invoke/VarHandle" ∧ (parseMethodDescriptor (dY md_48).desc).map (fun d => d.parameters.length) = some 1 := ⟨by decide +kernel, by decide +kernel, by decide +kernel⟩
theorem wc_49 {L : Nat} {xs : Nat → Int32} : wC (PP L xs 49) ∈ w_all := show wC md_49 ∈ w_all from w_in 433 (by decide +kernel) (by decide +kernel)
theorem wd_49 : (dY md_49).cls ≠ "java/lang/invoke/MethodHandle" ∧ (dY md_49).cls ≠ "java/lang/invoke/VarHandle" ∧ (parseMethodDescriptor (dY md_49).desc).map (fun d => d.parameters.length) = some 1 := ⟨by decide +kernel, by decide +kernel, by decide +kernel⟩
theorem wc_50 {L : Nat} {xs : Nat → Int32} : wC (PP L xs 50) ∈ w_all := show wC md_50 ∈ w_all from w_in 438 (by decide +kernel) (by decide +kernel)
theorem wd_50 : (dY md_50).cls ≠ "java/lang/invoke/MethodHandle" ∧ (dY md_50).cls ≠ "java/lang/invoke/VarHandle" ∧ (parseMethodDescriptor (dY md_50).desc).map (fun d => d.parameters.length) = some 2 := ⟨by decide +kernel, by decide +kernel, by decide +kernel⟩
theorem wc_51 {L : Nat} {xs : Nat → Int32} : wC (PP L xs 51) ∈ w_all := show wC md_51 ∈ w_all from w_in 442 (by decide +kernel) (by decide +kernel)
theorem wd_51 : (dY md_51).cls ≠ "java/lang/invoke/MethodHandle" ∧ (dY md_51).cls ≠ "java/lang/invoke/VarHandle" ∧ (parseMethodDescriptor (dY md_51).desc).map (fun d => d.parameters.length) = some 2 := ⟨by decide +kernel, by decide +kernel, by decide +kernel⟩
theorem wc_52 {L : Nat} {xs : Nat → Int32} : wC (PP L xs 52) ∈ w_all := show wC md_52 ∈ w_all from w_in 660 (by decide +kernel) (by decide +kernel)
theorem wd_52 : (dY md_52).cls ≠ "java/lang/invoke/MethodHandle" ∧ (dY md_52).cls ≠ "java/lang/invoke/VarHandle" ∧ (parseMethodDescriptor (dY md_52).desc).map (fun d => d.parameters.length) = some 2 := ⟨by decide +kernel, by decide +kernel, by decide +kernel⟩
theorem wc_53 {L : Nat} {xs : Nat → Int32} : wC (PP L xs 53) ∈ w_all := show wC md_53 ∈ w_all from w_in 664 (by decide +kernel) (by decide +kernel)
theorem wd_53 : (dY md_53).cls ≠ "java/lang/invoke/MethodHandle" ∧ (dY md_53).cls ≠ "java/lang/invoke/VarHandle" ∧ (parseMethodDescriptor (dY md_53).desc).map (fun d => d.parameters.length) = some 2 := ⟨by decide +kernel, by decide +kernel, by decide +kernel⟩
theorem wc_54 {L : Nat} {xs : Nat → Int32} : wC (PP L xs 54) ∈ w_all := show wC md_54 ∈ w_all from w_in 668 (by decide +kernel) (by decide +kernel)
theorem wd_54 : (dY md_54).cls ≠ "java/lang/invoke/MethodHandle" ∧ (dY md_54).cls ≠ "java/lang/invoke/VarHandle" ∧ (parseMethodDescriptor (dY md_54).desc).map (fun d => d.parameters.length) = some 2 := ⟨by decide +kernel, by decide +kernel, by decide +kernel⟩
theorem wc_55 {L : Nat} {xs : Nat → Int32} : wC (PP L xs 55) ∈ w_all := show wC md_55 ∈ w_all from w_in 48 (by decide +kernel) (by decide +kernel)
theorem wd_55 : (dY md_55).cls ≠ "java/lang/invoke/MethodHandle" ∧ (dY md_55).cls ≠ "java/lang/invoke/VarHandle" ∧ (parseMethodDescriptor (dY md_55).desc).map (fun d => d.parameters.length) = some 0 := ⟨by decide +kernel, by decide +kernel, by decide +kernel⟩
theorem wc_56 {L : Nat} {xs : Nat → Int32} : wC (PP L xs 56) ∈ w_all := show wC md_56 ∈ w_all from w_in 530 (by decide +kernel) (by decide +kernel)
theorem wd_56 : (dY md_56).cls ≠ "java/lang/invoke/MethodHandle" ∧ (dY md_56).cls ≠ "java/lang/invoke/VarHandle" ∧ (parseMethodDescriptor (dY md_56).desc).map (fun d => d.parameters.length) = some 0 := ⟨by decide +kernel, by decide +kernel, by decide +kernel⟩
theorem wc_57 {L : Nat} {xs : Nat → Int32} : wC (PP L xs 57) ∈ w_all := show wC md_57 ∈ w_all from w_in 508 (by decide +kernel) (by decide +kernel)
theorem wd_57 : (dY md_57).cls ≠ "java/lang/invoke/MethodHandle" ∧ (dY md_57).cls ≠ "java/lang/invoke/VarHandle" ∧ (parseMethodDescriptor (dY md_57).desc).map (fun d => d.parameters.length) = some 0 := ⟨by decide +kernel, by decide +kernel, by decide +kernel⟩
theorem wc_58 {L : Nat} {xs : Nat → Int32} : wC (PP L xs 58) ∈ w_all := show wC md_58 ∈ w_all from w_in 513 (by decide +kernel) (by decide +kernel)
theorem wd_58 : (dY md_58).cls ≠ "java/lang/invoke/MethodHandle" ∧ (dY md_58).cls ≠ "java/lang/invoke/VarHandle" ∧ (parseMethodDescriptor (dY md_58).desc).map (fun d => d.parameters.length) = some 1 := ⟨by decide +kernel, by decide +kernel, by decide +kernel⟩
theorem wc_59 {L : Nat} {xs : Nat → Int32} : wC (PP L xs 59) ∈ w_all := show wC md_59 ∈ w_all from w_in 621 (by decide +kernel) (by decide +kernel)
theorem wd_59 : (dY md_59).cls ≠ "java/lang/invoke/MethodHandle" ∧ (dY md_59).cls ≠ "java/lang/invoke/VarHandle" ∧ (parseMethodDescriptor (dY md_59).desc).map (fun d => d.parameters.length) = some 0 := ⟨by decide +kernel, by decide +kernel, by decide +kernel⟩
theorem wc_60 {L : Nat} {xs : Nat → Int32} : wC (PP L xs 60) ∈ w_all := show wC md_60 ∈ w_all from w_in 544 (by decide +kernel) (by decide +kernel)
theorem wd_60 : (dY md_60).cls ≠ "java/lang/invoke/MethodHandle" ∧ (dY md_60).cls ≠ "java/lang/invoke/VarHandle" ∧ (parseMethodDescriptor (dY md_60).desc).map (fun d => d.parameters.length) = some 0 := ⟨by decide +kernel, by decide +kernel, by decide +kernel⟩
theorem wc_61 {L : Nat} {xs : Nat → Int32} : wC (PP L xs 61) ∈ w_all := show wC md_61 ∈ w_all from w_in 40 (by decide +kernel) (by decide +kernel)
theorem wd_61 : (dY md_61).cls ≠ "java/lang/invoke/MethodHandle" ∧ (dY md_61).cls ≠ "java/lang/invoke/VarHandle" ∧ (parseMethodDescriptor (dY md_61).desc).map (fun d => d.parameters.length) = some 0 := ⟨by decide +kernel, by decide +kernel, by decide +kernel⟩
theorem wc_62 {L : Nat} {xs : Nat → Int32} : wC (PP L xs 62) ∈ w_all := show wC md_62 ∈ w_all from w_in 488 (by decide +kernel) (by decide +kernel)
theorem wd_62 : (dY md_62).cls ≠ "java/lang/invoke/MethodHandle" ∧ (dY md_62).cls ≠ "java/lang/invoke/VarHandle" ∧ (parseMethodDescriptor (dY md_62).desc).map (fun d => d.parameters.length) = some 1 := ⟨by decide +kernel, by decide +kernel, by decide +kernel⟩
theorem wc_63 {L : Nat} {xs : Nat → Int32} : wC (PP L xs 63) ∈ w_all := show wC md_63 ∈ w_all from w_in 517 (by decide +kernel) (by decide +kernel)
theorem wd_63 : (dY md_63).cls ≠ "java/lang/invoke/MethodHandle" ∧ (dY md_63).cls ≠ "java/lang/invoke/VarHandle" ∧ (parseMethodDescriptor (dY md_63).desc).map (fun d => d.parameters.length) = some 1 := ⟨by decide +kernel, by decide +kernel, by decide +kernel⟩
theorem wc_64 {L : Nat} {xs : Nat → Int32} : wC (PP L xs 64) ∈ w_all := show wC md_64 ∈ w_all from w_in 552 (by decide +kernel) (by decide +kernel)
theorem wd_64 : (dY md_64).cls ≠ "java/lang/invoke/MethodHandle" ∧ (dY md_64).cls ≠ "java/lang/invoke/VarHandle" ∧ (parseMethodDescriptor (dY md_64).desc).map (fun d => d.parameters.length) = some 0 := ⟨by decide +kernel, by decide +kernel, by decide +kernel⟩
theorem wc_65 {L : Nat} {xs : Nat → Int32} : wC (PP L xs 65) ∈ w_all := show wC md_65 ∈ w_all from w_in 578 (by decide +kernel) (by decide +kernel)
theorem wd_65 : (dY md_65).cls ≠ "java/lang/invoke/MethodHandle" ∧ (dY md_65).cls ≠ "java/lang/invoke/VarHandle" ∧ (parseMethodDescriptor (dY md_65).desc).map (fun d => d.parameters.length) = some 2 := ⟨by decide +kernel, by decide +kernel, by decide +kernel⟩
theorem wc_66 {L : Nat} {xs : Nat → Int32} : wC (PP L xs 66) ∈ w_all := show wC md_66 ∈ w_all from w_in 588 (by decide +kernel) (by decide +kernel)
theorem wd_66 : (dY md_66).cls ≠ "java/lang/invoke/MethodHandle" ∧ (dY md_66).cls ≠ "java/lang/invoke/VarHandle" ∧ (parseMethodDescriptor (dY md_66).desc).map (fun d => d.parameters.length) = some 0 := ⟨by decide +kernel, by decide +kernel, by decide +kernel⟩
theorem wc_67 {L : Nat} {xs : Nat → Int32} : wC (PP L xs 67) ∈ w_all := show wC md_67 ∈ w_all from w_in 235 (by decide +kernel) (by decide +kernel)
theorem wd_67 : (dY md_67).cls ≠ "java/lang/invoke/MethodHandle" ∧ (dY md_67).cls ≠ "java/lang/invoke/VarHandle" ∧ (parseMethodDescriptor (dY md_67).desc).map (fun d => d.parameters.length) = some 0 := ⟨by decide +kernel, by decide +kernel, by decide +kernel⟩
theorem wc_68 {L : Nat} {xs : Nat → Int32} : wC (PP L xs 68) ∈ w_all := show wC md_68 ∈ w_all from w_in 601 (by decide +kernel) (by decide +kernel)
theorem wd_68 : (dY md_68).cls ≠ "java/lang/invoke/MethodHandle" ∧ (dY md_68).cls ≠ "java/lang/invoke/VarHandle" ∧ (parseMethodDescriptor (dY md_68).desc).map (fun d => d.parameters.length) = some 2 := ⟨by decide +kernel, by decide +kernel, by decide +kernel⟩
theorem wc_69 {L : Nat} {xs : Nat → Int32} : wC (PP L xs 69) ∈ w_all := show wC md_69 ∈ w_all from w_in 617 (by decide +kernel) (by decide +kernel)
theorem wd_69 : (dY md_69).cls ≠ "java/lang/invoke/MethodHandle" ∧ (dY md_69).cls ≠ "java/lang/invoke/VarHandle" ∧ (parseMethodDescriptor (dY md_69).desc).map (fun d => d.parameters.length) = some 1 := ⟨by decide +kernel, by decide +kernel, by decide +kernel⟩
theorem wc_70 {L : Nat} {xs : Nat → Int32} : wC (PP L xs 70) ∈ w_all := show wC md_70 ∈ w_all from w_in 626 (by decide +kernel) (by decide +kernel)
theorem wd_70 : (dY md_70).cls ≠ "java/lang/invoke/MethodHandle" ∧ (dY md_70).cls ≠ "java/lang/invoke/VarHandle" ∧ (parseMethodDescriptor (dY md_70).desc).map (fun d => d.parameters.length) = some 2 := ⟨by decide +kernel, by decide +kernel, by decide +kernel⟩
theorem wc_71 {L : Nat} {xs : Nat → Int32} : wC (PP L xs 71) ∈ w_all := show wC md_71 ∈ w_all from w_in 631 (by decide +kernel) (by decide +kernel)
theorem wd_71 : (dY md_71).cls ≠ "java/lang/invoke/MethodHandle" ∧ (dY md_71).cls ≠ "java/lang/invoke/VarHandle" ∧ (parseMethodDescriptor (dY md_71).desc).map (fun d => d.parameters.length) = some 2 := ⟨by decide +kernel, by decide +kernel, by decide +kernel⟩
theorem wc_72 {L : Nat} {xs : Nat → Int32} : wC (PP L xs 72) ∈ w_all := show wC md_72 ∈ w_all from w_in 643 (by decide +kernel) (by decide +kernel)
theorem wd_72 : (dY md_72).cls ≠ "java/lang/invoke/MethodHandle" ∧ (dY md_72).cls ≠ "java/lang/invoke/VarHandle" ∧ (parseMethodDescriptor (dY md_72).desc).map (fun d => d.parameters.length) = some 2 := ⟨by decide +kernel, by decide +kernel, by decide +kernel⟩
theorem wc_73 {L : Nat} {xs : Nat → Int32} : wC (PP L xs 73) ∈ w_all := show wC md_73 ∈ w_all from w_in 243 (by decide +kernel) (by decide +kernel)
theorem wd_73 : (dY md_73).cls ≠ "java/lang/invoke/MethodHandle" ∧ (dY md_73).cls ≠ "java/lang/invoke/VarHandle" ∧ (parseMethodDescriptor (dY md_73).desc).map (fun d => d.parameters.length) = some 1 := ⟨by decide +kernel, by decide +kernel, by decide +kernel⟩
theorem wc_74 {L : Nat} {xs : Nat → Int32} : wC (PP L xs 74) ∈ w_all := show wC md_74 ∈ w_all from w_in 463 (by decide +kernel) (by decide +kernel)
theorem wd_74 : (dY md_74).cls ≠ "java/lang/invoke/MethodHandle" ∧ (dY md_74).cls ≠ "java/lang/invoke/VarHandle" ∧ (parseMethodDescriptor (dY md_74).desc).map (fun d => d.parameters.length) = some 0 := ⟨by decide +kernel, by decide +kernel, by decide +kernel⟩
theorem wc_75 {L : Nat} {xs : Nat → Int32} : wC (PP L xs 75) ∈ w_all := show wC md_75 ∈ w_all from w_in 647 (by decide +kernel) (by decide +kernel)
theorem wd_75 : (dY md_75).cls ≠ "java/lang/invoke/MethodHandle" ∧ (dY md_75).cls ≠ "java/lang/invoke/VarHandle" ∧ (parseMethodDescriptor (dY md_75).desc).map (fun d => d.parameters.length) = some 2 := ⟨by decide +kernel, by decide +kernel, by decide +kernel⟩
theorem wc_76 {L : Nat} {xs : Nat → Int32} : wC (PP L xs 76) ∈ w_all := show wC md_76 ∈ w_all from w_in 679 (by decide +kernel) (by decide +kernel)
theorem wd_76 : (dY md_76).cls ≠ "java/lang/invoke/MethodHandle" ∧ (dY md_76).cls ≠ "java/lang/invoke/VarHandle" ∧ (parseMethodDescriptor (dY md_76).desc).map (fun d => d.parameters.length) = some 2 := ⟨by decide +kernel, by decide +kernel, by decide +kernel⟩
theorem wc_77 {L : Nat} {xs : Nat → Int32} : wC (PP L xs 77) ∈ w_all := show wC md_77 ∈ w_all from w_in 471 (by decide +kernel) (by decide +kernel)
theorem wd_77 : (dY md_77).cls ≠ "java/lang/invoke/MethodHandle" ∧ (dY md_77).cls ≠ "java/lang/invoke/VarHandle" ∧ (parseMethodDescriptor (dY md_77).desc).map (fun d => d.parameters.length) = some 0 := ⟨by decide +kernel, by decide +kernel, by decide +kernel⟩
theorem wc_78 {L : Nat} {xs : Nat → Int32} : wC (PP L xs 78) ∈ w_all := show wC md_78 ∈ w_all from w_in 635 (by decide +kernel) (by decide +kernel)
theorem wd_78 : (dY md_78).cls ≠ "java/lang/invoke/MethodHandle" ∧ (dY md_78).cls ≠ "java/lang/invoke/VarHandle" ∧ (parseMethodDescriptor (dY md_78).desc).map (fun d => d.parameters.length) = some 3 := ⟨by decide +kernel, by decide +kernel, by decide +kernel⟩
theorem wc_79 {L : Nat} {xs : Nat → Int32} : wC (PP L xs 79) ∈ w_all := show wC md_79 ∈ w_all from w_in 342 (by decide +kernel) (by decide +kernel)
theorem wd_79 : (dY md_79).cls ≠ "java/lang/invoke/MethodHandle" ∧ (dY md_79).cls ≠ "java/lang/invoke/VarHandle" ∧ (parseMethodDescriptor (dY md_79).desc).map (fun d => d.parameters.length) = some 1 := ⟨by decide +kernel, by decide +kernel, by decide +kernel⟩
theorem wc_80 {L : Nat} {xs : Nat → Int32} : wC (PP L xs 80) ∈ w_all := show wC md_80 ∈ w_all from w_in 651 (by decide +kernel) (by decide +kernel)
theorem wd_80 : (dY md_80).cls ≠ "java/lang/invoke/MethodHandle" ∧ (dY md_80).cls ≠ "java/lang/invoke/VarHandle" ∧ (parseMethodDescriptor (dY md_80).desc).map (fun d => d.parameters.length) = some 3 := ⟨by decide +kernel, by decide +kernel, by decide +kernel⟩
theorem wc_81 {L : Nat} {xs : Nat → Int32} : wC (PP L xs 81) ∈ w_all := show wC md_81 ∈ w_all from w_in 671 (by decide +kernel) (by decide +kernel)
theorem wd_81 : (dY md_81).cls ≠ "java/lang/invoke/MethodHandle" ∧ (dY md_81).cls ≠ "java/lang/invoke/VarHandle" ∧ (parseMethodDescriptor (dY md_81).desc).map (fun d => d.parameters.length) = some 1 := ⟨by decide +kernel, by decide +kernel, by decide +kernel⟩
theorem wc_82 {L : Nat} {xs : Nat → Int32} : wC (PP L xs 82) ∈ w_all := show wC md_82 ∈ w_all from w_in 674 (by decide +kernel) (by decide +kernel)
theorem wd_82 : (dY md_82).cls ≠ "java/lang/invoke/MethodHandle" ∧ (dY md_82).cls ≠ "java/lang/invoke/VarHandle" ∧ (parseMethodDescriptor (dY md_82).desc).map (fun d => d.parameters.length) = some 2 := ⟨by decide +kernel, by decide +kernel, by decide +kernel⟩
theorem wc_83 {L : Nat} {xs : Nat → Int32} : wC (PP L xs 83) ∈ w_all := show wC md_83 ∈ w_all from w_in 466 (by decide +kernel) (by decide +kernel)
theorem wd_83 : (dY md_83).cls ≠ "java/lang/invoke/MethodHandle" ∧ (dY md_83).cls ≠ "java/lang/invoke/VarHandle" ∧ (parseMethodDescriptor (dY md_83).desc).map (fun d => d.parameters.length) = some 1 := ⟨by decide +kernel, by decide +kernel, by decide +kernel⟩
theorem wc_84 {L : Nat} {xs : Nat → Int32} : wC (PP L xs 84) ∈ w_all := show wC md_84 ∈ w_all from w_in 353 (by decide +kernel) (by decide +kernel)
theorem wd_84 : (dY md_84).cls ≠ "java/lang/invoke/MethodHandle" ∧ (dY md_84).cls ≠ "java/lang/invoke/VarHandle" ∧ (parseMethodDescriptor (dY md_84).desc).map (fun d => d.parameters.length) = some 1 := ⟨by decide +kernel, by decide +kernel, by decide +kernel⟩
theorem wc_85 {L : Nat} {xs : Nat → Int32} : wC (PP L xs 85) ∈ w_all := show wC md_85 ∈ w_all from w_in 520 (by decide +kernel) (by decide +kernel)
theorem wd_85 : (dY md_85).cls ≠ "java/lang/invoke/MethodHandle" ∧ (dY md_85).cls ≠ "java/lang/invoke/VarHandle" ∧ (parseMethodDescriptor (dY md_85).desc).map (fun d => d.parameters.length) = some 1 := ⟨by decide +kernel, by decide +kernel, by decide +kernel⟩
theorem wc_86 {L : Nat} {xs : Nat → Int32} : wC (PP L xs 86) ∈ w_all := show wC md_86 ∈ w_all from w_in 609 (by decide +kernel) (by decide +kernel)
theorem wd_86 : (dY md_86).cls ≠ "java/lang/invoke/MethodHandle" ∧ (dY md_86).cls ≠ "java/lang/invoke/VarHandle" ∧ (parseMethodDescriptor (dY md_86).desc).map (fun d => d.parameters.length) = some 1 := ⟨by decide +kernel, by decide +kernel, by decide +kernel⟩
theorem wc_87 {L : Nat} {xs : Nat → Int32} : wC (PP L xs 87) ∈ w_all := show wC md_87 ∈ w_all from w_in 246 (by decide +kernel) (by decide +kernel)
theorem wd_87 : (dY md_87).cls ≠ "java/lang/invoke/MethodHandle" ∧ (dY md_87).cls ≠ "java/lang/invoke/VarHandle" ∧ (parseMethodDescriptor (dY md_87).desc).map (fun d => d.parameters.length) = some 1 := ⟨by decide +kernel, by decide +kernel, by decide +kernel⟩
theorem wc_88 {L : Nat} {xs : Nat → Int32} : wC (PP L xs 88) ∈ w_all := show wC md_88 ∈ w_all from w_in 605 (by decide +kernel) (by decide +kernel)
theorem wd_88 : (dY md_88).cls ≠ "java/lang/invoke/MethodHandle" ∧ (dY md_88).cls ≠ "java/lang/invoke/VarHandle" ∧ (parseMethodDescriptor (dY md_88).desc).map (fun d => d.parameters.length) = some 1 := ⟨by decide +kernel, by decide +kernel, by decide +kernel⟩
theorem wc_89 {L : Nat} {xs : Nat → Int32} : wC (PP L xs 89) ∈ w_all := show wC md_89 ∈ w_all from w_in 526 (by decide +kernel) (by decide +kernel)
theorem wd_89 : (dY md_89).cls ≠ "java/lang/invoke/MethodHandle" ∧ (dY md_89).cls ≠ "java/lang/invoke/VarHandle" ∧ (parseMethodDescriptor (dY md_89).desc).map (fun d => d.parameters.length) = some 0 := ⟨by decide +kernel, by decide +kernel, by decide +kernel⟩
theorem wc_90 {L : Nat} {xs : Nat → Int32} : wC (PP L xs 90) ∈ w_all := show wC md_90 ∈ w_all from w_in 318 (by decide +kernel) (by decide +kernel)
theorem wd_90 : (dY md_90).cls ≠ "java/lang/invoke/MethodHandle" ∧ (dY md_90).cls ≠ "java/lang/invoke/VarHandle" ∧ (parseMethodDescriptor (dY md_90).desc).map (fun d => d.parameters.length) = some 0 := ⟨by decide +kernel, by decide +kernel, by decide +kernel⟩
theorem wc_91 {L : Nat} {xs : Nat → Int32} : wC (PP L xs 91) ∈ w_all := show wC md_91 ∈ w_all from w_in 484 (by decide +kernel) (by decide +kernel)
theorem wd_91 : (dY md_91).cls ≠ "java/lang/invoke/MethodHandle" ∧ (dY md_91).cls ≠ "java/lang/invoke/VarHandle" ∧ (parseMethodDescriptor (dY md_91).desc).map (fun d => d.parameters.length) = some 4 := ⟨by decide +kernel, by decide +kernel, by decide +kernel⟩
theorem wc_92 {L : Nat} {xs : Nat → Int32} : wC (PP L xs 92) ∈ w_all := show wC md_92 ∈ w_all from w_in 478 (by decide +kernel) (by decide +kernel)
theorem wd_92 : (dY md_92).cls ≠ "java/lang/invoke/MethodHandle" ∧ (dY md_92).cls ≠ "java/lang/invoke/VarHandle" ∧ (parseMethodDescriptor (dY md_92).desc).map (fun d => d.parameters.length) = some 4 := ⟨by decide +kernel, by decide +kernel, by decide +kernel⟩
theorem wc_93 {L : Nat} {xs : Nat → Int32} : wC (PP L xs 93) ∈ w_all := show Cond.code yL_draw cL_draw 2 (some .int) ∈ w_all from w_in 682 (by decide +kernel) (by decide +kernel)
theorem wd_93 {L : Nat} {xs : Nat → Int32} : (dY (md_93 L xs)).cls ≠ "java/lang/invoke/MethodHandle" ∧ (dY (md_93 L xs)).cls ≠ "java/lang/invoke/VarHandle" ∧ (parseMethodDescriptor (dY (md_93 L xs)).desc).map (fun d => d.parameters.length) = some 2 := ⟨(by decide +kernel : yL_draw.cls ≠ "java/lang/invoke/MethodHandle"), (by decide +kernel : yL_draw.cls ≠ "java/lang/invoke/VarHandle"), (by decide +kernel : (parseMethodDescriptor yL_draw.desc).map (fun d => d.parameters.length) = some 2)⟩
theorem wc_94 {L : Nat} {xs : Nat → Int32} : wC (PP L xs 94) ∈ w_all := show wC md_94 ∈ w_all from w_in 687 (by decide +kernel) (by decide +kernel)
theorem wd_94 : (dY md_94).cls ≠ "java/lang/invoke/MethodHandle" ∧ (dY md_94).cls ≠ "java/lang/invoke/VarHandle" ∧ (parseMethodDescriptor (dY md_94).desc).map (fun d => d.parameters.length) = some 5 := ⟨by decide +kernel, by decide +kernel, by decide +kernel⟩
theorem wc_95 {L : Nat} {xs : Nat → Int32} : wC (PP L xs 95) ∈ w_all := show wC md_95 ∈ w_all from w_in 691 (by decide +kernel) (by decide +kernel)
theorem wd_95 : (dY md_95).cls ≠ "java/lang/invoke/MethodHandle" ∧ (dY md_95).cls ≠ "java/lang/invoke/VarHandle" ∧ (parseMethodDescriptor (dY md_95).desc).map (fun d => d.parameters.length) = some 3 := ⟨by decide +kernel, by decide +kernel, by decide +kernel⟩
theorem wq_18 : Cond.initialized "TrellistagLaw" ∈ w_all := w_in 18 (by decide +kernel) (by decide +kernel)
theorem wq_19 : Cond.initialized "Trellistag" ∈ w_all := w_in 19 (by decide +kernel) (by decide +kernel)
theorem wq_20 : Cond.initialized "Trellistag$TypedWord" ∈ w_all := w_in 20 (by decide +kernel) (by decide +kernel)
theorem wq_21 : Cond.initialized "Trellistag$Corpus" ∈ w_all := w_in 21 (by decide +kernel) (by decide +kernel)
theorem wq_22 : Cond.initialized "Trellistag$Text" ∈ w_all := w_in 22 (by decide +kernel) (by decide +kernel)
theorem wq_23 : Cond.initialized "Trellistag$Sentence" ∈ w_all := w_in 23 (by decide +kernel) (by decide +kernel)
theorem wq_24 : Cond.initialized "Trellistag$Lattice" ∈ w_all := w_in 24 (by decide +kernel) (by decide +kernel)
theorem wq_25 : Cond.initialized "Trellistag$PathFinder" ∈ w_all := w_in 25 (by decide +kernel) (by decide +kernel)
theorem wq_26 : Cond.initialized "Trellistag$Trellis" ∈ w_all := w_in 26 (by decide +kernel) (by decide +kernel)
theorem wq_27 : Cond.initialized "Trellistag$Ranking" ∈ w_all := w_in 27 (by decide +kernel) (by decide +kernel)
theorem wq_28 : Cond.initialized "Trellistag$AllPaths" ∈ w_all := w_in 28 (by decide +kernel) (by decide +kernel)
theorem wq_32 : Cond.initialized "java/lang/IllegalArgumentException" ∈ w_all := w_in 32 (by decide +kernel) (by decide +kernel)
theorem wq_33 : Cond.initialized "java/lang/IllegalStateException" ∈ w_all := w_in 33 (by decide +kernel) (by decide +kernel)
theorem wq_34 : Cond.initialized "java/lang/IndexOutOfBoundsException" ∈ w_all := w_in 34 (by decide +kernel) (by decide +kernel)
theorem wq_35 : Cond.initialized "java/lang/Math" ∈ w_all := w_in 35 (by decide +kernel) (by decide +kernel)
theorem wq_36 : Cond.classLink "TrellistagLaw" 8 "Trellistag" ∈ w_all := w_in 36 (by decide +kernel) (by decide +kernel)
theorem wq_37 : Cond.instantiable "Trellistag" 9 ∈ w_all := w_in 37 (by decide +kernel) (by decide +kernel)
theorem wq_38 : Cond.methodLink "TrellistagLaw" 73 ⟨"Trellistag", "<init>", "()V"⟩ ∈ w_all := w_in 38 (by decide +kernel) (by decide +kernel)
theorem wq_39 : Cond.instanceMethod ⟨"Trellistag", "<init>", "()V"⟩ ∈ w_all := w_in 39 (by decide +kernel) (by decide +kernel)
theorem wq_41 : Cond.methodLink "Trellistag" 3 ⟨"java/lang/Object", "<init>", "()V"⟩ ∈ w_all := w_in 41 (by decide +kernel) (by decide +kernel)
theorem wq_42 : Cond.instanceMethod ⟨"java/lang/Object", "<init>", "()V"⟩ ∈ w_all := w_in 42 (by decide +kernel) (by decide +kernel)
theorem wq_44 : Cond.classLink "Trellistag" 9 "Trellistag$TypedWord" ∈ w_all := w_in 44 (by decide +kernel) (by decide +kernel)
theorem wq_45 : Cond.instantiable "Trellistag$TypedWord" 2 ∈ w_all := w_in 45 (by decide +kernel) (by decide +kernel)
theorem wq_46 : Cond.methodLinkNest "Trellistag" 11 ⟨"Trellistag$TypedWord", "<init>", "()V"⟩ "Trellistag" ∈ w_bad := w_bin 46 (by decide +kernel) (by decide +kernel)
theorem wq_47 : Cond.instanceMethod ⟨"Trellistag$TypedWord", "<init>", "()V"⟩ ∈ w_all := w_in 47 (by decide +kernel) (by decide +kernel)
theorem wq_49 : Cond.methodLink "Trellistag$TypedWord" 3 ⟨"java/lang/Object", "<init>", "()V"⟩ ∈ w_all := w_in 49 (by decide +kernel) (by decide +kernel)
theorem wq_50 : Cond.fieldLink "Trellistag$TypedWord" 15 "Trellistag$TypedWord" "code" "I" ∈ w_all := w_in 50 (by decide +kernel) (by decide +kernel)
theorem wq_51 : Cond.fieldLink "Trellistag$TypedWord" 9 "Trellistag$TypedWord" "letters" "I" ∈ w_all := w_in 51 (by decide +kernel) (by decide +kernel)
theorem wq_57 : Cond.classLink "Trellistag" 16 "Trellistag$Corpus" ∈ w_all := w_in 57 (by decide +kernel) (by decide +kernel)
theorem wq_58 : Cond.instantiable "Trellistag$Corpus" 5 ∈ w_all := w_in 58 (by decide +kernel) (by decide +kernel)
theorem wq_59 : Cond.methodLink "Trellistag" 18 ⟨"Trellistag$Corpus", "<init>", "()V"⟩ ∈ w_all := w_in 59 (by decide +kernel) (by decide +kernel)
theorem wq_60 : Cond.instanceMethod ⟨"Trellistag$Corpus", "<init>", "()V"⟩ ∈ w_all := w_in 60 (by decide +kernel) (by decide +kernel)
theorem wq_62 : Cond.methodLink "Trellistag$Corpus" 3 ⟨"java/lang/Object", "<init>", "()V"⟩ ∈ w_all := w_in 62 (by decide +kernel) (by decide +kernel)
theorem wq_63 : Cond.classLink "Trellistag$Corpus" 9 "Trellistag$Text" ∈ w_all := w_in 63 (by decide +kernel) (by decide +kernel)
theorem wq_65 : Cond.classLink "Trellistag$Corpus" 21 "[[I" ∈ w_all := w_in 65 (by decide +kernel) (by decide +kernel)
theorem wq_67 : Cond.instantiable "Trellistag$Text" 4 ∈ w_all := w_in 67 (by decide +kernel) (by decide +kernel)
theorem wq_68 : Cond.methodLinkNest "Trellistag$Corpus" 26 ⟨"Trellistag$Text", "<init>", "()V"⟩ "Trellistag" ∈ w_bad := w_bin 68 (by decide +kernel) (by decide +kernel)
theorem wq_69 : Cond.instanceMethod ⟨"Trellistag$Text", "<init>", "()V"⟩ ∈ w_all := w_in 69 (by decide +kernel) (by decide +kernel)
theorem wq_71 : Cond.methodLink "Trellistag$Text" 3 ⟨"java/lang/Object", "<init>", "()V"⟩ ∈ w_all := w_in 71 (by decide +kernel) (by decide +kernel)
theorem wq_72 : Cond.fieldLink "Trellistag$Text" 9 "Trellistag$Text" "words" "[I" ∈ w_all := w_in 72 (by decide +kernel) (by decide +kernel)
theorem wq_73 : Cond.fieldLinkNest "Trellistag$Corpus" 72 "Trellistag$Text" "words" "[I" "Trellistag" ∈ w_bad := w_bin 73 (by decide +kernel) (by decide +kernel)
theorem wq_74 : Cond.fieldLink "Trellistag$Text" 15 "Trellistag$Text" "tags" "[I" ∈ w_all := w_in 74 (by decide +kernel) (by decide +kernel)
theorem wq_75 : Cond.fieldLinkNest "Trellistag$Corpus" 46 "Trellistag$Text" "tags" "[I" "Trellistag" ∈ w_bad := w_bin 75 (by decide +kernel) (by decide +kernel)
theorem wq_76 : Cond.fieldLink "Trellistag$Text" 18 "Trellistag$Text" "size" "I" ∈ w_all := w_in 76 (by decide +kernel) (by decide +kernel)
theorem wq_77 : Cond.fieldLinkNest "Trellistag$Corpus" 49 "Trellistag$Text" "size" "I" "Trellistag" ∈ w_bad := w_bin 77 (by decide +kernel) (by decide +kernel)
theorem wq_78 : Cond.fieldLinkNest "Trellistag$Corpus" 38 "Trellistag$Text" "counts" "Z" "Trellistag" ∈ w_bad := w_bin 78 (by decide +kernel) (by decide +kernel)
theorem wq_88 : Cond.arrayClass FieldType.int ∈ w_all := w_in 88 (by decide +kernel) (by decide +kernel)
theorem wq_89 : Cond.fieldLink "Trellistag$Corpus" 11 "Trellistag$Corpus" "texts" "[LTrellistag$Text;" ∈ w_all := w_in 89 (by decide +kernel) (by decide +kernel)
theorem wq_90 : Cond.fieldLink "Trellistag$Corpus" 17 "Trellistag$Corpus" "firsts" "[I" ∈ w_all := w_in 90 (by decide +kernel) (by decide +kernel)
theorem wq_91 : Cond.fieldLink "Trellistag$Corpus" 23 "Trellistag$Corpus" "steps" "[[I" ∈ w_all := w_in 91 (by decide +kernel) (by decide +kernel)
theorem wq_92 : Cond.fieldLink "Trellistag$Corpus" 27 "Trellistag$Corpus" "size" "I" ∈ w_all := w_in 92 (by decide +kernel) (by decide +kernel)
theorem wq_93 : Cond.fieldLink "Trellistag$Corpus" 31 "Trellistag$Corpus" "counting" "I" ∈ w_all := w_in 93 (by decide +kernel) (by decide +kernel)
theorem wq_105 : Cond.classLink "Trellistag" 23 "Trellistag$Sentence" ∈ w_all := w_in 105 (by decide +kernel) (by decide +kernel)
theorem wq_106 : Cond.instantiable "Trellistag$Sentence" 3 ∈ w_all := w_in 106 (by decide +kernel) (by decide +kernel)
theorem wq_107 : Cond.methodLinkNest "Trellistag" 25 ⟨"Trellistag$Sentence", "<init>", "()V"⟩ "Trellistag" ∈ w_bad := w_bin 107 (by decide +kernel) (by decide +kernel)
theorem wq_108 : Cond.instanceMethod ⟨"Trellistag$Sentence", "<init>", "()V"⟩ ∈ w_all := w_in 108 (by decide +kernel) (by decide +kernel)
theorem wq_110 : Cond.methodLink "Trellistag$Sentence" 3 ⟨"java/lang/Object", "<init>", "()V"⟩ ∈ w_all := w_in 110 (by decide +kernel) (by decide +kernel)
theorem wq_111 : Cond.fieldLink "Trellistag$Sentence" 9 "Trellistag$Sentence" "words" "[I" ∈ w_all := w_in 111 (by decide +kernel) (by decide +kernel)
theorem wq_112 : Cond.fieldLink "Trellistag$Sentence" 15 "Trellistag$Sentence" "locks" "[I" ∈ w_all := w_in 112 (by decide +kernel) (by decide +kernel)
theorem wq_113 : Cond.fieldLink "Trellistag$Sentence" 18 "Trellistag$Sentence" "size" "I" ∈ w_all := w_in 113 (by decide +kernel) (by decide +kernel)
theorem wq_121 : Cond.classLink "Trellistag" 30 "Trellistag$Lattice" ∈ w_all := w_in 121 (by decide +kernel) (by decide +kernel)
theorem wq_122 : Cond.instantiable "Trellistag$Lattice" 4 ∈ w_all := w_in 122 (by decide +kernel) (by decide +kernel)
theorem wq_123 : Cond.methodLink "Trellistag" 32 ⟨"Trellistag$Lattice", "<init>", "(LTrellistag$Corpus;LTrellistag$Sentence;)V"⟩ ∈ w_all := w_in 123 (by decide +kernel) (by decide +kernel)
theorem wq_124 : Cond.instanceMethod ⟨"Trellistag$Lattice", "<init>", "(LTrellistag$Corpus;LTrellistag$Sentence;)V"⟩ ∈ w_all := w_in 124 (by decide +kernel) (by decide +kernel)
theorem wq_126 : Cond.methodLink "Trellistag$Lattice" 3 ⟨"java/lang/Object", "<init>", "()V"⟩ ∈ w_all := w_in 126 (by decide +kernel) (by decide +kernel)
theorem wq_127 : Cond.classLink "Trellistag$Lattice" 9 "[[I" ∈ w_all := w_in 127 (by decide +kernel) (by decide +kernel)
theorem wq_128 : Cond.fieldLink "Trellistag$Lattice" 19 "Trellistag$Lattice" "corpus" "LTrellistag$Corpus;" ∈ w_all := w_in 128 (by decide +kernel) (by decide +kernel)
theorem wq_129 : Cond.fieldLink "Trellistag$Lattice" 23 "Trellistag$Lattice" "sentence" "LTrellistag$Sentence;" ∈ w_all := w_in 129 (by decide +kernel) (by decide +kernel)
theorem wq_130 : Cond.fieldLink "Trellistag$Lattice" 11 "Trellistag$Lattice" "wordWeights" "[[I" ∈ w_all := w_in 130 (by decide +kernel) (by decide +kernel)
theorem wq_131 : Cond.fieldLink "Trellistag$Lattice" 16 "Trellistag$Lattice" "stepWeights" "[[I" ∈ w_all := w_in 131 (by decide +kernel) (by decide +kernel)
theorem wq_141 : Cond.classLink "Trellistag" 39 "Trellistag$Trellis" ∈ w_all := w_in 141 (by decide +kernel) (by decide +kernel)
theorem wq_142 : Cond.instantiable "Trellistag$Trellis" 4 ∈ w_all := w_in 142 (by decide +kernel) (by decide +kernel)
theorem wq_143 : Cond.methodLink "Trellistag" 41 ⟨"Trellistag$Trellis", "<init>", "(LTrellistag$Lattice;)V"⟩ ∈ w_all := w_in 143 (by decide +kernel) (by decide +kernel)
theorem wq_144 : Cond.instanceMethod ⟨"Trellistag$Trellis", "<init>", "(LTrellistag$Lattice;)V"⟩ ∈ w_all := w_in 144 (by decide +kernel) (by decide +kernel)
theorem wq_146 : Cond.methodLinkNest "Trellistag$Trellis" 3 ⟨"Trellistag$PathFinder", "<init>", "()V"⟩ "Trellistag" ∈ w_bad := w_bin 146 (by decide +kernel) (by decide +kernel)
theorem wq_147 : Cond.instanceMethod ⟨"Trellistag$PathFinder", "<init>", "()V"⟩ ∈ w_all := w_in 147 (by decide +kernel) (by decide +kernel)
theorem wq_149 : Cond.methodLink "Trellistag$PathFinder" 1 ⟨"java/lang/Object", "<init>", "()V"⟩ ∈ w_all := w_in 149 (by decide +kernel) (by decide +kernel)
theorem wq_150 : Cond.classLink "Trellistag$Trellis" 9 "Trellistag$Ranking" ∈ w_all := w_in 150 (by decide +kernel) (by decide +kernel)
theorem wq_152 : Cond.classLink "Trellistag$Trellis" 17 "[[J" ∈ w_all := w_in 152 (by decide +kernel) (by decide +kernel)
theorem wq_154 : Cond.instantiable "Trellistag$Ranking" 3 ∈ w_all := w_in 154 (by decide +kernel) (by decide +kernel)
theorem wq_155 : Cond.methodLinkNest "Trellistag$Trellis" 29 ⟨"Trellistag$Ranking", "<init>", "()V"⟩ "Trellistag" ∈ w_bad := w_bin 155 (by decide +kernel) (by decide +kernel)
theorem wq_156 : Cond.instanceMethod ⟨"Trellistag$Ranking", "<init>", "()V"⟩ ∈ w_all := w_in 156 (by decide +kernel) (by decide +kernel)
theorem wq_158 : Cond.methodLink "Trellistag$Ranking" 3 ⟨"java/lang/Object", "<init>", "()V"⟩ ∈ w_all := w_in 158 (by decide +kernel) (by decide +kernel)
theorem wq_159 : Cond.fieldLink "Trellistag$Ranking" 9 "Trellistag$Ranking" "weights" "[J" ∈ w_all := w_in 159 (by decide +kernel) (by decide +kernel)
theorem wq_160 : Cond.fieldLink "Trellistag$Ranking" 15 "Trellistag$Ranking" "paths" "[I" ∈ w_all := w_in 160 (by decide +kernel) (by decide +kernel)
theorem wq_161 : Cond.fieldLink "Trellistag$Ranking" 19 "Trellistag$Ranking" "size" "I" ∈ w_all := w_in 161 (by decide +kernel) (by decide +kernel)
theorem wq_169 : Cond.arrayClass FieldType.long ∈ w_all := w_in 169 (by decide +kernel) (by decide +kernel)
theorem wq_170 : Cond.fieldLink "Trellistag$Trellis" 25 "Trellistag$Trellis" "lattice" "LTrellistag$Lattice;" ∈ w_all := w_in 170 (by decide +kernel) (by decide +kernel)
theorem wq_171 : Cond.fieldLink "Trellistag$Trellis" 11 "Trellistag$Trellis" "rankings" "[LTrellistag$Ranking;" ∈ w_all := w_in 171 (by decide +kernel) (by decide +kernel)
theorem wq_172 : Cond.fieldLink "Trellistag$Trellis" 19 "Trellistag$Trellis" "sumsAhead" "[[J" ∈ w_all := w_in 172 (by decide +kernel) (by decide +kernel)
theorem wq_173 : Cond.fieldLink "Trellistag$Trellis" 22 "Trellistag$Trellis" "sumsBehind" "[[J" ∈ w_all := w_in 173 (by decide +kernel) (by decide +kernel)
theorem wq_183 : Cond.classLink "Trellistag" 48 "Trellistag$AllPaths" ∈ w_all := w_in 183 (by decide +kernel) (by decide +kernel)
theorem wq_184 : Cond.instantiable "Trellistag$AllPaths" 4 ∈ w_all := w_in 184 (by decide +kernel) (by decide +kernel)
theorem wq_185 : Cond.methodLink "Trellistag" 50 ⟨"Trellistag$AllPaths", "<init>", "(LTrellistag$Lattice;)V"⟩ ∈ w_all := w_in 185 (by decide +kernel) (by decide +kernel)
theorem wq_186 : Cond.instanceMethod ⟨"Trellistag$AllPaths", "<init>", "(LTrellistag$Lattice;)V"⟩ ∈ w_all := w_in 186 (by decide +kernel) (by decide +kernel)
theorem wq_188 : Cond.methodLinkNest "Trellistag$AllPaths" 3 ⟨"Trellistag$PathFinder", "<init>", "()V"⟩ "Trellistag" ∈ w_bad := w_bin 188 (by decide +kernel) (by decide +kernel)
theorem wq_189 : Cond.fieldLink "Trellistag$AllPaths" 22 "Trellistag$AllPaths" "lattice" "LTrellistag$Lattice;" ∈ w_all := w_in 189 (by decide +kernel) (by decide +kernel)
theorem wq_190 : Cond.fieldLink "Trellistag$AllPaths" 9 "Trellistag$AllPaths" "tags" "[I" ∈ w_all := w_in 190 (by decide +kernel) (by decide +kernel)
theorem wq_191 : Cond.fieldLink "Trellistag$AllPaths" 15 "Trellistag$AllPaths" "weights" "[J" ∈ w_all := w_in 191 (by decide +kernel) (by decide +kernel)
theorem wq_192 : Cond.fieldLink "Trellistag$AllPaths" 19 "Trellistag$AllPaths" "paths" "[I" ∈ w_all := w_in 192 (by decide +kernel) (by decide +kernel)
theorem wq_202 : Cond.classLink "Trellistag" 54 "Trellistag$Ranking" ∈ w_all := w_in 202 (by decide +kernel) (by decide +kernel)
theorem wq_203 : Cond.methodLinkNest "Trellistag" 56 ⟨"Trellistag$Ranking", "<init>", "()V"⟩ "Trellistag" ∈ w_bad := w_bin 203 (by decide +kernel) (by decide +kernel)
theorem wq_204 : Cond.fieldLink "Trellistag" 12 "Trellistag" "typed" "LTrellistag$TypedWord;" ∈ w_all := w_in 204 (by decide +kernel) (by decide +kernel)
theorem wq_205 : Cond.fieldLink "Trellistag" 19 "Trellistag" "corpus" "LTrellistag$Corpus;" ∈ w_all := w_in 205 (by decide +kernel) (by decide +kernel)
theorem wq_206 : Cond.fieldLink "Trellistag" 26 "Trellistag" "sentence" "LTrellistag$Sentence;" ∈ w_all := w_in 206 (by decide +kernel) (by decide +kernel)
theorem wq_207 : Cond.fieldLink "Trellistag" 35 "Trellistag" "lattice" "LTrellistag$Lattice;" ∈ w_all := w_in 207 (by decide +kernel) (by decide +kernel)
theorem wq_208 : Cond.fieldLink "Trellistag" 44 "Trellistag" "trellis" "LTrellistag$PathFinder;" ∈ w_all := w_in 208 (by decide +kernel) (by decide +kernel)
theorem wq_209 : Cond.fieldLink "Trellistag" 51 "Trellistag" "allPaths" "LTrellistag$PathFinder;" ∈ w_all := w_in 209 (by decide +kernel) (by decide +kernel)
theorem wq_210 : Cond.fieldLink "Trellistag" 57 "Trellistag" "best" "LTrellistag$Ranking;" ∈ w_all := w_in 210 (by decide +kernel) (by decide +kernel)
theorem wq_211 : Cond.fieldLink "Trellistag" 61 "Trellistag" "tagWeights" "[I" ∈ w_all := w_in 211 (by decide +kernel) (by decide +kernel)
theorem wq_212 : Cond.fieldLink "Trellistag" 65 "Trellistag" "tagSums" "[J" ∈ w_all := w_in 212 (by decide +kernel) (by decide +kernel)
theorem wq_232 : Cond.methodLink "TrellistagLaw" 79 ⟨"Trellistag", "clear", "()I"⟩ ∈ w_all := w_in 232 (by decide +kernel) (by decide +kernel)
theorem wq_233 : Cond.instanceMethod ⟨"Trellistag", "clear", "()I"⟩ ∈ w_all := w_in 233 (by decide +kernel) (by decide +kernel)
theorem wq_234 : Cond.selects "Trellistag" ⟨"Trellistag", "clear", "()I"⟩ ⟨"Trellistag", "clear", "()I"⟩ ∈ w_all := w_in 234 (by decide +kernel) (by decide +kernel)
theorem wq_236 : Cond.methodLink "Trellistag" 142 ⟨"Trellistag$Sentence", "removeAll", "()I"⟩ ∈ w_all := w_in 236 (by decide +kernel) (by decide +kernel)
theorem wq_237 : Cond.instanceMethod ⟨"Trellistag$Sentence", "removeAll", "()I"⟩ ∈ w_all := w_in 237 (by decide +kernel) (by decide +kernel)
theorem wq_238 : Cond.selects "Trellistag$Sentence" ⟨"Trellistag$Sentence", "removeAll", "()I"⟩ ⟨"Trellistag$Sentence", "removeAll", "()I"⟩ ∈ w_all := w_in 238 (by decide +kernel) (by decide +kernel)
theorem wq_240 : Cond.methodLink "TrellistagLaw" 66 ⟨"Trellistag", "product", "(I)J"⟩ ∈ w_all := w_in 240 (by decide +kernel) (by decide +kernel)
theorem wq_241 : Cond.instanceMethod ⟨"Trellistag", "product", "(I)J"⟩ ∈ w_all := w_in 241 (by decide +kernel) (by decide +kernel)
theorem wq_242 : Cond.selects "Trellistag" ⟨"Trellistag", "product", "(I)J"⟩ ⟨"Trellistag", "product", "(I)J"⟩ ∈ w_all := w_in 242 (by decide +kernel) (by decide +kernel)
theorem wq_244 : Cond.methodLink "Trellistag" 168 ⟨"Trellistag", "requireRank", "(I)V"⟩ ∈ w_all := w_in 244 (by decide +kernel) (by decide +kernel)
theorem wq_245 : Cond.static ⟨"Trellistag", "requireRank", "(I)V"⟩ ∈ w_all := w_in 245 (by decide +kernel) (by decide +kernel)
theorem wq_247 : Cond.classLink "Trellistag" 127 "java/lang/IndexOutOfBoundsException" ∈ w_all := w_in 247 (by decide +kernel) (by decide +kernel)
theorem wq_249 : Cond.castable "java/lang/IndexOutOfBoundsException" "java/lang/IndexOutOfBoundsException" ∈ w_bad := w_bin 249 (by decide +kernel) (by decide +kernel)
theorem wq_315 : Cond.methodLink "Trellistag" 171 ⟨"Trellistag", "requireSentence", "()V"⟩ ∈ w_all := w_in 315 (by decide +kernel) (by decide +kernel)
theorem wq_317 : Cond.instanceMethod ⟨"Trellistag", "requireSentence", "()V"⟩ ∈ w_all := w_in 317 (by decide +kernel) (by decide +kernel)
theorem wq_319 : Cond.methodLink "Trellistag" 192 ⟨"Trellistag$Sentence", "size", "()I"⟩ ∈ w_all := w_in 319 (by decide +kernel) (by decide +kernel)
theorem wq_320 : Cond.instanceMethod ⟨"Trellistag$Sentence", "size", "()I"⟩ ∈ w_all := w_in 320 (by decide +kernel) (by decide +kernel)
theorem wq_321 : Cond.selects "Trellistag$Sentence" ⟨"Trellistag$Sentence", "size", "()I"⟩ ⟨"Trellistag$Sentence", "size", "()I"⟩ ∈ w_all := w_in 321 (by decide +kernel) (by decide +kernel)
theorem wq_323 : Cond.classLink "Trellistag" 80 "java/lang/IllegalStateException" ∈ w_all := w_in 323 (by decide +kernel) (by decide +kernel)
theorem wq_325 : Cond.castable "java/lang/IllegalStateException" "java/lang/IllegalStateException" ∈ w_bad := w_bin 325 (by decide +kernel) (by decide +kernel)
theorem wq_339 : Cond.methodLink "Trellistag" 174 ⟨"Trellistag", "rankPaths", "(LTrellistag$PathFinder;)V"⟩ ∈ w_all := w_in 339 (by decide +kernel) (by decide +kernel)
theorem wq_341 : Cond.instanceMethod ⟨"Trellistag", "rankPaths", "(LTrellistag$PathFinder;)V"⟩ ∈ w_all := w_in 341 (by decide +kernel) (by decide +kernel)
theorem wq_343 : Cond.methodLink "Trellistag" 198 ⟨"Trellistag$Lattice", "weighAll", "()V"⟩ ∈ w_all := w_in 343 (by decide +kernel) (by decide +kernel)
theorem wq_344 : Cond.instanceMethod ⟨"Trellistag$Lattice", "weighAll", "()V"⟩ ∈ w_all := w_in 344 (by decide +kernel) (by decide +kernel)
theorem wq_345 : Cond.selects "Trellistag$Lattice" ⟨"Trellistag$Lattice", "weighAll", "()V"⟩ ⟨"Trellistag$Lattice", "weighAll", "()V"⟩ ∈ w_all := w_in 345 (by decide +kernel) (by decide +kernel)
theorem wq_347 : Cond.methodLink "Trellistag$Lattice" 33 ⟨"Trellistag$Corpus", "stepWeight", "(II)I"⟩ ∈ w_all := w_in 347 (by decide +kernel) (by decide +kernel)
theorem wq_348 : Cond.instanceMethod ⟨"Trellistag$Corpus", "stepWeight", "(II)I"⟩ ∈ w_all := w_in 348 (by decide +kernel) (by decide +kernel)
theorem wq_349 : Cond.selects "Trellistag$Corpus" ⟨"Trellistag$Corpus", "stepWeight", "(II)I"⟩ ⟨"Trellistag$Corpus", "stepWeight", "(II)I"⟩ ∈ w_all := w_in 349 (by decide +kernel) (by decide +kernel)
theorem wq_351 : Cond.methodLinkNest "Trellistag$Corpus" 50 ⟨"Trellistag", "isTag", "(I)Z"⟩ "Trellistag" ∈ w_bad := w_bin 351 (by decide +kernel) (by decide +kernel)
theorem wq_352 : Cond.static ⟨"Trellistag", "isTag", "(I)Z"⟩ ∈ w_all := w_in 352 (by decide +kernel) (by decide +kernel)
theorem wq_354 : Cond.methodLink "Trellistag$Corpus" 54 ⟨"java/lang/Math", "min", "(II)I"⟩ ∈ w_all := w_in 354 (by decide +kernel) (by decide +kernel)
theorem wq_355 : Cond.static ⟨"java/lang/Math", "min", "(II)I"⟩ ∈ w_all := w_in 355 (by decide +kernel) (by decide +kernel)
theorem wq_357 : Cond.methodLink "Trellistag$Lattice" 27 ⟨"Trellistag$Sentence", "size", "()I"⟩ ∈ w_all := w_in 357 (by decide +kernel) (by decide +kernel)
theorem wq_358 : Cond.methodLink "Trellistag$Lattice" 39 ⟨"Trellistag$Sentence", "wordAt", "(I)I"⟩ ∈ w_all := w_in 358 (by decide +kernel) (by decide +kernel)
theorem wq_359 : Cond.instanceMethod ⟨"Trellistag$Sentence", "wordAt", "(I)I"⟩ ∈ w_all := w_in 359 (by decide +kernel) (by decide +kernel)
theorem wq_360 : Cond.selects "Trellistag$Sentence" ⟨"Trellistag$Sentence", "wordAt", "(I)I"⟩ ⟨"Trellistag$Sentence", "wordAt", "(I)I"⟩ ∈ w_all := w_in 360 (by decide +kernel) (by decide +kernel)
theorem wq_362 : Cond.methodLink "Trellistag$Lattice" 43 ⟨"Trellistag$Corpus", "weigh", "(I[I)V"⟩ ∈ w_all := w_in 362 (by decide +kernel) (by decide +kernel)
theorem wq_363 : Cond.instanceMethod ⟨"Trellistag$Corpus", "weigh", "(I[I)V"⟩ ∈ w_all := w_in 363 (by decide +kernel) (by decide +kernel)
theorem wq_364 : Cond.selects "Trellistag$Corpus" ⟨"Trellistag$Corpus", "weigh", "(I[I)V"⟩ ⟨"Trellistag$Corpus", "weigh", "(I[I)V"⟩ ∈ w_all := w_in 364 (by decide +kernel) (by decide +kernel)
theorem wq_366 : Cond.methodLink "Trellistag$Corpus" 60 ⟨"Trellistag$Corpus", "clearRow", "([I)V"⟩ ∈ w_all := w_in 366 (by decide +kernel) (by decide +kernel)
theorem wq_367 : Cond.static ⟨"Trellistag$Corpus", "clearRow", "([I)V"⟩ ∈ w_all := w_in 367 (by decide +kernel) (by decide +kernel)
theorem wq_369 : Cond.methodLink "Trellistag$Corpus" 64 ⟨"Trellistag$Corpus", "countInText", "(LTrellistag$Text;II[I)I"⟩ ∈ w_all := w_in 369 (by decide +kernel) (by decide +kernel)
theorem wq_370 : Cond.static ⟨"Trellistag$Corpus", "countInText", "(LTrellistag$Text;II[I)I"⟩ ∈ w_all := w_in 370 (by decide +kernel) (by decide +kernel)
theorem wq_372 : Cond.methodLink "Trellistag$Corpus" 75 ⟨"Trellistag$Corpus", "likeness", "(II)I"⟩ ∈ w_all := w_in 372 (by decide +kernel) (by decide +kernel)
theorem wq_373 : Cond.static ⟨"Trellistag$Corpus", "likeness", "(II)I"⟩ ∈ w_all := w_in 373 (by decide +kernel) (by decide +kernel)
theorem wq_375 : Cond.methodLink "Trellistag$Corpus" 68 ⟨"Trellistag$Corpus", "factorOf", "(I)I"⟩ ∈ w_all := w_in 375 (by decide +kernel) (by decide +kernel)
theorem wq_376 : Cond.static ⟨"Trellistag$Corpus", "factorOf", "(I)I"⟩ ∈ w_all := w_in 376 (by decide +kernel) (by decide +kernel)
theorem wq_378 : Cond.methodLink "Trellistag$Lattice" 47 ⟨"Trellistag$Lattice", "ruleOut", "(I)V"⟩ ∈ w_all := w_in 378 (by decide +kernel) (by decide +kernel)
theorem wq_380 : Cond.instanceMethod ⟨"Trellistag$Lattice", "ruleOut", "(I)V"⟩ ∈ w_all := w_in 380 (by decide +kernel) (by decide +kernel)
theorem wq_382 : Cond.methodLink "Trellistag$Lattice" 51 ⟨"Trellistag$Sentence", "allows", "(II)Z"⟩ ∈ w_all := w_in 382 (by decide +kernel) (by decide +kernel)
theorem wq_383 : Cond.instanceMethod ⟨"Trellistag$Sentence", "allows", "(II)Z"⟩ ∈ w_all := w_in 383 (by decide +kernel) (by decide +kernel)
theorem wq_384 : Cond.selects "Trellistag$Sentence" ⟨"Trellistag$Sentence", "allows", "(II)Z"⟩ ⟨"Trellistag$Sentence", "allows", "(II)Z"⟩ ∈ w_all := w_in 384 (by decide +kernel) (by decide +kernel)
theorem wq_386 : Cond.methodLink "Trellistag" 201 ⟨"Trellistag$Ranking", "removeAll", "()V"⟩ ∈ w_all := w_in 386 (by decide +kernel) (by decide +kernel)
theorem wq_387 : Cond.instanceMethod ⟨"Trellistag$Ranking", "removeAll", "()V"⟩ ∈ w_all := w_in 387 (by decide +kernel) (by decide +kernel)
theorem wq_388 : Cond.selects "Trellistag$Ranking" ⟨"Trellistag$Ranking", "removeAll", "()V"⟩ ⟨"Trellistag$Ranking", "removeAll", "()V"⟩ ∈ w_all := w_in 388 (by decide +kernel) (by decide +kernel)
theorem wq_390 : Cond.methodLink "Trellistag" 203 ⟨"Trellistag$PathFinder", "rankInto", "(LTrellistag$Ranking;)V"⟩ ∈ w_all := w_in 390 (by decide +kernel) (by decide +kernel)
theorem wq_391 : Cond.declares ⟨"Trellistag$PathFinder", "rankInto", "(LTrellistag$Ranking;)V"⟩ ∈ w_bad := w_bin 391 (by decide +kernel) (by decide +kernel)
theorem wq_392 : Cond.sameMethod "Trellistag$PathFinder" "Trellistag$PathFinder" "rankInto" "(LTrellistag$Ranking;)V" ∈ w_all := w_in 392 (by decide +kernel) (by decide +kernel)
theorem wq_393 : Cond.selects "Trellistag$AllPaths" ⟨"Trellistag$PathFinder", "rankInto", "(LTrellistag$Ranking;)V"⟩ ⟨"Trellistag$AllPaths", "rankInto", "(LTrellistag$Ranking;)V"⟩ ∈ w_all := w_in 393 (by decide +kernel) (by decide +kernel)
theorem wq_394 : Cond.instanceMethod ⟨"Trellistag$AllPaths", "rankInto", "(LTrellistag$Ranking;)V"⟩ ∈ w_all := w_in 394 (by decide +kernel) (by decide +kernel)
theorem wq_396 : Cond.methodLink "Trellistag$AllPaths" 26 ⟨"Trellistag$Lattice", "size", "()I"⟩ ∈ w_all := w_in 396 (by decide +kernel) (by decide +kernel)
theorem wq_397 : Cond.instanceMethod ⟨"Trellistag$Lattice", "size", "()I"⟩ ∈ w_all := w_in 397 (by decide +kernel) (by decide +kernel)
theorem wq_398 : Cond.selects "Trellistag$Lattice" ⟨"Trellistag$Lattice", "size", "()I"⟩ ⟨"Trellistag$Lattice", "size", "()I"⟩ ∈ w_all := w_in 398 (by decide +kernel) (by decide +kernel)
theorem wq_400 : Cond.methodLink "Trellistag$AllPaths" 32 ⟨"Trellistag$AllPaths", "countPaths", "()I"⟩ ∈ w_all := w_in 400 (by decide +kernel) (by decide +kernel)
theorem wq_402 : Cond.instanceMethod ⟨"Trellistag$AllPaths", "countPaths", "()I"⟩ ∈ w_all := w_in 402 (by decide +kernel) (by decide +kernel)
theorem wq_404 : Cond.methodLink "Trellistag$AllPaths" 35 ⟨"Trellistag$AllPaths", "startWalk", "()V"⟩ ∈ w_all := w_in 404 (by decide +kernel) (by decide +kernel)
theorem wq_406 : Cond.instanceMethod ⟨"Trellistag$AllPaths", "startWalk", "()V"⟩ ∈ w_all := w_in 406 (by decide +kernel) (by decide +kernel)
theorem wq_408 : Cond.methodLink "Trellistag$AllPaths" 47 ⟨"Trellistag$AllPaths", "weighFrom", "(I)V"⟩ ∈ w_all := w_in 408 (by decide +kernel) (by decide +kernel)
theorem wq_410 : Cond.instanceMethod ⟨"Trellistag$AllPaths", "weighFrom", "(I)V"⟩ ∈ w_all := w_in 410 (by decide +kernel) (by decide +kernel)
theorem wq_412 : Cond.methodLink "Trellistag$AllPaths" 51 ⟨"Trellistag$Lattice", "arc", "(III)J"⟩ ∈ w_all := w_in 412 (by decide +kernel) (by decide +kernel)
theorem wq_413 : Cond.instanceMethod ⟨"Trellistag$Lattice", "arc", "(III)J"⟩ ∈ w_all := w_in 413 (by decide +kernel) (by decide +kernel)
theorem wq_414 : Cond.selects "Trellistag$Lattice" ⟨"Trellistag$Lattice", "arc", "(III)J"⟩ ⟨"Trellistag$Lattice", "arc", "(III)J"⟩ ∈ w_all := w_in 414 (by decide +kernel) (by decide +kernel)
theorem wq_416 : Cond.methodLink "Trellistag$AllPaths" 55 ⟨"Trellistag$Ranking", "extended", "(II)I"⟩ ∈ w_all := w_in 416 (by decide +kernel) (by decide +kernel)
theorem wq_417 : Cond.static ⟨"Trellistag$Ranking", "extended", "(II)I"⟩ ∈ w_all := w_in 417 (by decide +kernel) (by decide +kernel)
theorem wq_419 : Cond.methodLink "Trellistag$AllPaths" 38 ⟨"Trellistag$Ranking", "offer", "(JI)V"⟩ ∈ w_all := w_in 419 (by decide +kernel) (by decide +kernel)
theorem wq_420 : Cond.instanceMethod ⟨"Trellistag$Ranking", "offer", "(JI)V"⟩ ∈ w_all := w_in 420 (by decide +kernel) (by decide +kernel)
theorem wq_421 : Cond.selects "Trellistag$Ranking" ⟨"Trellistag$Ranking", "offer", "(JI)V"⟩ ⟨"Trellistag$Ranking", "offer", "(JI)V"⟩ ∈ w_all := w_in 421 (by decide +kernel) (by decide +kernel)
theorem wq_423 : Cond.methodLink "Trellistag$Ranking" 23 ⟨"Trellistag$Ranking", "insert", "(IJI)V"⟩ ∈ w_all := w_in 423 (by decide +kernel) (by decide +kernel)
theorem wq_425 : Cond.instanceMethod ⟨"Trellistag$Ranking", "insert", "(IJI)V"⟩ ∈ w_all := w_in 425 (by decide +kernel) (by decide +kernel)
theorem wq_427 : Cond.methodLink "Trellistag$AllPaths" 44 ⟨"Trellistag$AllPaths", "goOn", "()V"⟩ ∈ w_all := w_in 427 (by decide +kernel) (by decide +kernel)
theorem wq_429 : Cond.instanceMethod ⟨"Trellistag$AllPaths", "goOn", "()V"⟩ ∈ w_all := w_in 429 (by decide +kernel) (by decide +kernel)
theorem wq_431 : Cond.selects "Trellistag$Trellis" ⟨"Trellistag$PathFinder", "rankInto", "(LTrellistag$Ranking;)V"⟩ ⟨"Trellistag$Trellis", "rankInto", "(LTrellistag$Ranking;)V"⟩ ∈ w_all := w_in 431 (by decide +kernel) (by decide +kernel)
theorem wq_432 : Cond.instanceMethod ⟨"Trellistag$Trellis", "rankInto", "(LTrellistag$Ranking;)V"⟩ ∈ w_all := w_in 432 (by decide +kernel) (by decide +kernel)
theorem wq_434 : Cond.methodLink "Trellistag$Trellis" 30 ⟨"Trellistag$Lattice", "size", "()I"⟩ ∈ w_all := w_in 434 (by decide +kernel) (by decide +kernel)
theorem wq_435 : Cond.methodLink "Trellistag$Trellis" 36 ⟨"Trellistag$Trellis", "rankUpTo", "(II)V"⟩ ∈ w_all := w_in 435 (by decide +kernel) (by decide +kernel)
theorem wq_437 : Cond.instanceMethod ⟨"Trellistag$Trellis", "rankUpTo", "(II)V"⟩ ∈ w_all := w_in 437 (by decide +kernel) (by decide +kernel)
theorem wq_439 : Cond.methodLink "Trellistag$Trellis" 40 ⟨"Trellistag$Trellis", "rankingAt", "(II)LTrellistag$Ranking;"⟩ ∈ w_all := w_in 439 (by decide +kernel) (by decide +kernel)
theorem wq_441 : Cond.instanceMethod ⟨"Trellistag$Trellis", "rankingAt", "(II)LTrellistag$Ranking;"⟩ ∈ w_all := w_in 441 (by decide +kernel) (by decide +kernel)
theorem wq_443 : Cond.methodLink "Trellistag$Trellis" 48 ⟨"Trellistag$Ranking", "removeAll", "()V"⟩ ∈ w_all := w_in 443 (by decide +kernel) (by decide +kernel)
theorem wq_444 : Cond.methodLink "Trellistag$Trellis" 51 ⟨"Trellistag$Lattice", "arc", "(III)J"⟩ ∈ w_all := w_in 444 (by decide +kernel) (by decide +kernel)
theorem wq_445 : Cond.methodLink "Trellistag$Trellis" 55 ⟨"Trellistag$Ranking", "offer", "(JI)V"⟩ ∈ w_all := w_in 445 (by decide +kernel) (by decide +kernel)
theorem wq_446 : Cond.methodLink "Trellistag$Trellis" 59 ⟨"Trellistag$Ranking", "offerExtended", "(LTrellistag$Ranking;JI)V"⟩ ∈ w_all := w_in 446 (by decide +kernel) (by decide +kernel)
theorem wq_447 : Cond.instanceMethod ⟨"Trellistag$Ranking", "offerExtended", "(LTrellistag$Ranking;JI)V"⟩ ∈ w_all := w_in 447 (by decide +kernel) (by decide +kernel)
theorem wq_448 : Cond.selects "Trellistag$Ranking" ⟨"Trellistag$Ranking", "offerExtended", "(LTrellistag$Ranking;JI)V"⟩ ⟨"Trellistag$Ranking", "offerExtended", "(LTrellistag$Ranking;JI)V"⟩ ∈ w_all := w_in 448 (by decide +kernel) (by decide +kernel)
theorem wq_450 : Cond.methodLink "Trellistag$Ranking" 31 ⟨"Trellistag$Ranking", "extended", "(II)I"⟩ ∈ w_all := w_in 450 (by decide +kernel) (by decide +kernel)
theorem wq_451 : Cond.methodLink "Trellistag$Ranking" 27 ⟨"Trellistag$Ranking", "offer", "(JI)V"⟩ ∈ w_all := w_in 451 (by decide +kernel) (by decide +kernel)
theorem wq_452 : Cond.methodLink "Trellistag$Trellis" 44 ⟨"Trellistag$Ranking", "offerAll", "(LTrellistag$Ranking;)V"⟩ ∈ w_all := w_in 452 (by decide +kernel) (by decide +kernel)
theorem wq_453 : Cond.instanceMethod ⟨"Trellistag$Ranking", "offerAll", "(LTrellistag$Ranking;)V"⟩ ∈ w_all := w_in 453 (by decide +kernel) (by decide +kernel)
theorem wq_454 : Cond.selects "Trellistag$Ranking" ⟨"Trellistag$Ranking", "offerAll", "(LTrellistag$Ranking;)V"⟩ ⟨"Trellistag$Ranking", "offerAll", "(LTrellistag$Ranking;)V"⟩ ∈ w_all := w_in 454 (by decide +kernel) (by decide +kernel)
theorem wq_456 : Cond.methodLink "Trellistag" 178 ⟨"Trellistag$Ranking", "weightOf", "(I)J"⟩ ∈ w_all := w_in 456 (by decide +kernel) (by decide +kernel)
theorem wq_457 : Cond.instanceMethod ⟨"Trellistag$Ranking", "weightOf", "(I)J"⟩ ∈ w_all := w_in 457 (by decide +kernel) (by decide +kernel)
theorem wq_458 : Cond.selects "Trellistag$Ranking" ⟨"Trellistag$Ranking", "weightOf", "(I)J"⟩ ⟨"Trellistag$Ranking", "weightOf", "(I)J"⟩ ∈ w_all := w_in 458 (by decide +kernel) (by decide +kernel)
theorem wq_460 : Cond.methodLink "TrellistagLaw" 89 ⟨"Trellistag", "cost", "()I"⟩ ∈ w_all := w_in 460 (by decide +kernel) (by decide +kernel)
theorem wq_461 : Cond.instanceMethod ⟨"Trellistag", "cost", "()I"⟩ ∈ w_all := w_in 461 (by decide +kernel) (by decide +kernel)
theorem wq_462 : Cond.selects "Trellistag" ⟨"Trellistag", "cost", "()I"⟩ ⟨"Trellistag", "cost", "()I"⟩ ∈ w_all := w_in 462 (by decide +kernel) (by decide +kernel)
theorem wq_464 : Cond.methodLink "Trellistag" 182 ⟨"Trellistag", "doublings", "(J)I"⟩ ∈ w_all := w_in 464 (by decide +kernel) (by decide +kernel)
theorem wq_465 : Cond.static ⟨"Trellistag", "doublings", "(J)I"⟩ ∈ w_all := w_in 465 (by decide +kernel) (by decide +kernel)
theorem wq_467 : Cond.constantLong "Trellistag" 223 (1152921504606846975 : Int64) ∈ w_all := w_in 467 (by decide +kernel) (by decide +kernel)
theorem wq_468 : Cond.methodLink "TrellistagLaw" 82 ⟨"Trellistag", "texts", "()I"⟩ ∈ w_all := w_in 468 (by decide +kernel) (by decide +kernel)
theorem wq_469 : Cond.instanceMethod ⟨"Trellistag", "texts", "()I"⟩ ∈ w_all := w_in 469 (by decide +kernel) (by decide +kernel)
theorem wq_470 : Cond.selects "Trellistag" ⟨"Trellistag", "texts", "()I"⟩ ⟨"Trellistag", "texts", "()I"⟩ ∈ w_all := w_in 470 (by decide +kernel) (by decide +kernel)
theorem wq_472 : Cond.methodLink "Trellistag" 189 ⟨"Trellistag$Corpus", "counting", "()I"⟩ ∈ w_all := w_in 472 (by decide +kernel) (by decide +kernel)
theorem wq_473 : Cond.instanceMethod ⟨"Trellistag$Corpus", "counting", "()I"⟩ ∈ w_all := w_in 473 (by decide +kernel) (by decide +kernel)
theorem wq_474 : Cond.selects "Trellistag$Corpus" ⟨"Trellistag$Corpus", "counting", "()I"⟩ ⟨"Trellistag$Corpus", "counting", "()I"⟩ ∈ w_all := w_in 474 (by decide +kernel) (by decide +kernel)
theorem wq_476 : Cond.methodLink "TrellistagLaw" 70 ⟨"TrellistagLaw", "ask", "(LTrellistag;III)I"⟩ ∈ w_all := w_in 476 (by decide +kernel) (by decide +kernel)
theorem wq_477 : Cond.static ⟨"TrellistagLaw", "ask", "(LTrellistag;III)I"⟩ ∈ w_all := w_in 477 (by decide +kernel) (by decide +kernel)
theorem wq_479 : Cond.classLink "TrellistagLaw" 56 "java/lang/IndexOutOfBoundsException" ∈ w_all := w_in 479 (by decide +kernel) (by decide +kernel)
theorem wq_480 : Cond.classLink "TrellistagLaw" 58 "java/lang/IllegalArgumentException" ∈ w_all := w_in 480 (by decide +kernel) (by decide +kernel)
theorem wq_481 : Cond.classLink "TrellistagLaw" 60 "java/lang/IllegalStateException" ∈ w_all := w_in 481 (by decide +kernel) (by decide +kernel)
theorem wq_482 : Cond.methodLink "TrellistagLaw" 50 ⟨"TrellistagLaw", "call", "(LTrellistag;III)I"⟩ ∈ w_all := w_in 482 (by decide +kernel) (by decide +kernel)
theorem wq_483 : Cond.static ⟨"TrellistagLaw", "call", "(LTrellistag;III)I"⟩ ∈ w_all := w_in 483 (by decide +kernel) (by decide +kernel)
theorem wq_485 : Cond.methodLink "TrellistagLaw" 7 ⟨"Trellistag", "letter", "(C)I"⟩ ∈ w_all := w_in 485 (by decide +kernel) (by decide +kernel)
theorem wq_486 : Cond.instanceMethod ⟨"Trellistag", "letter", "(C)I"⟩ ∈ w_all := w_in 486 (by decide +kernel) (by decide +kernel)
theorem wq_487 : Cond.selects "Trellistag" ⟨"Trellistag", "letter", "(C)I"⟩ ⟨"Trellistag", "letter", "(C)I"⟩ ∈ w_all := w_in 487 (by decide +kernel) (by decide +kernel)
theorem wq_489 : Cond.classLink "Trellistag" 69 "java/lang/IllegalArgumentException" ∈ w_all := w_in 489 (by decide +kernel) (by decide +kernel)
theorem wq_491 : Cond.castable "java/lang/IllegalArgumentException" "java/lang/IllegalArgumentException" ∈ w_bad := w_bin 491 (by decide +kernel) (by decide +kernel)
theorem wq_505 : Cond.methodLink "Trellistag" 76 ⟨"Trellistag$TypedWord", "isFull", "()Z"⟩ ∈ w_all := w_in 505 (by decide +kernel) (by decide +kernel)
theorem wq_506 : Cond.instanceMethod ⟨"Trellistag$TypedWord", "isFull", "()Z"⟩ ∈ w_all := w_in 506 (by decide +kernel) (by decide +kernel)
theorem wq_507 : Cond.selects "Trellistag$TypedWord" ⟨"Trellistag$TypedWord", "isFull", "()Z"⟩ ⟨"Trellistag$TypedWord", "isFull", "()Z"⟩ ∈ w_all := w_in 507 (by decide +kernel) (by decide +kernel)
theorem wq_510 : Cond.methodLink "Trellistag" 85 ⟨"Trellistag$TypedWord", "append", "(C)I"⟩ ∈ w_all := w_in 510 (by decide +kernel) (by decide +kernel)
theorem wq_511 : Cond.instanceMethod ⟨"Trellistag$TypedWord", "append", "(C)I"⟩ ∈ w_all := w_in 511 (by decide +kernel) (by decide +kernel)
theorem wq_512 : Cond.selects "Trellistag$TypedWord" ⟨"Trellistag$TypedWord", "append", "(C)I"⟩ ⟨"Trellistag$TypedWord", "append", "(C)I"⟩ ∈ w_all := w_in 512 (by decide +kernel) (by decide +kernel)
theorem wq_514 : Cond.methodLink "TrellistagLaw" 13 ⟨"Trellistag", "tag", "(I)I"⟩ ∈ w_all := w_in 514 (by decide +kernel) (by decide +kernel)
theorem wq_515 : Cond.instanceMethod ⟨"Trellistag", "tag", "(I)I"⟩ ∈ w_all := w_in 515 (by decide +kernel) (by decide +kernel)
theorem wq_516 : Cond.selects "Trellistag" ⟨"Trellistag", "tag", "(I)I"⟩ ⟨"Trellistag", "tag", "(I)I"⟩ ∈ w_all := w_in 516 (by decide +kernel) (by decide +kernel)
theorem wq_518 : Cond.methodLink "Trellistag" 89 ⟨"Trellistag", "requireTag", "(I)V"⟩ ∈ w_all := w_in 518 (by decide +kernel) (by decide +kernel)
theorem wq_519 : Cond.static ⟨"Trellistag", "requireTag", "(I)V"⟩ ∈ w_all := w_in 519 (by decide +kernel) (by decide +kernel)
theorem wq_521 : Cond.methodLink "Trellistag" 225 ⟨"Trellistag", "isTag", "(I)Z"⟩ ∈ w_all := w_in 521 (by decide +kernel) (by decide +kernel)
theorem wq_523 : Cond.methodLink "Trellistag" 93 ⟨"Trellistag", "requireTyped", "()V"⟩ ∈ w_all := w_in 523 (by decide +kernel) (by decide +kernel)
theorem wq_525 : Cond.instanceMethod ⟨"Trellistag", "requireTyped", "()V"⟩ ∈ w_all := w_in 525 (by decide +kernel) (by decide +kernel)
theorem wq_527 : Cond.methodLink "Trellistag" 234 ⟨"Trellistag$TypedWord", "isEmpty", "()Z"⟩ ∈ w_all := w_in 527 (by decide +kernel) (by decide +kernel)
theorem wq_528 : Cond.instanceMethod ⟨"Trellistag$TypedWord", "isEmpty", "()Z"⟩ ∈ w_all := w_in 528 (by decide +kernel) (by decide +kernel)
theorem wq_529 : Cond.selects "Trellistag$TypedWord" ⟨"Trellistag$TypedWord", "isEmpty", "()Z"⟩ ⟨"Trellistag$TypedWord", "isEmpty", "()Z"⟩ ∈ w_all := w_in 529 (by decide +kernel) (by decide +kernel)
theorem wq_532 : Cond.methodLink "Trellistag" 96 ⟨"Trellistag$Corpus", "draft", "()LTrellistag$Text;"⟩ ∈ w_all := w_in 532 (by decide +kernel) (by decide +kernel)
theorem wq_533 : Cond.instanceMethod ⟨"Trellistag$Corpus", "draft", "()LTrellistag$Text;"⟩ ∈ w_all := w_in 533 (by decide +kernel) (by decide +kernel)
theorem wq_534 : Cond.selects "Trellistag$Corpus" ⟨"Trellistag$Corpus", "draft", "()LTrellistag$Text;"⟩ ⟨"Trellistag$Corpus", "draft", "()LTrellistag$Text;"⟩ ∈ w_all := w_in 534 (by decide +kernel) (by decide +kernel)
theorem wq_536 : Cond.methodLink "Trellistag" 100 ⟨"Trellistag$Text", "isFull", "()Z"⟩ ∈ w_all := w_in 536 (by decide +kernel) (by decide +kernel)
theorem wq_537 : Cond.instanceMethod ⟨"Trellistag$Text", "isFull", "()Z"⟩ ∈ w_all := w_in 537 (by decide +kernel) (by decide +kernel)
theorem wq_538 : Cond.selects "Trellistag$Text" ⟨"Trellistag$Text", "isFull", "()Z"⟩ ⟨"Trellistag$Text", "isFull", "()Z"⟩ ∈ w_all := w_in 538 (by decide +kernel) (by decide +kernel)
theorem wq_541 : Cond.methodLink "Trellistag" 105 ⟨"Trellistag$TypedWord", "take", "()I"⟩ ∈ w_all := w_in 541 (by decide +kernel) (by decide +kernel)
theorem wq_542 : Cond.instanceMethod ⟨"Trellistag$TypedWord", "take", "()I"⟩ ∈ w_all := w_in 542 (by decide +kernel) (by decide +kernel)
theorem wq_543 : Cond.selects "Trellistag$TypedWord" ⟨"Trellistag$TypedWord", "take", "()I"⟩ ⟨"Trellistag$TypedWord", "take", "()I"⟩ ∈ w_all := w_in 543 (by decide +kernel) (by decide +kernel)
theorem wq_545 : Cond.methodLink "Trellistag" 109 ⟨"Trellistag$Text", "append", "(II)I"⟩ ∈ w_all := w_in 545 (by decide +kernel) (by decide +kernel)
theorem wq_546 : Cond.instanceMethod ⟨"Trellistag$Text", "append", "(II)I"⟩ ∈ w_all := w_in 546 (by decide +kernel) (by decide +kernel)
theorem wq_547 : Cond.selects "Trellistag$Text" ⟨"Trellistag$Text", "append", "(II)I"⟩ ⟨"Trellistag$Text", "append", "(II)I"⟩ ∈ w_all := w_in 547 (by decide +kernel) (by decide +kernel)
theorem wq_549 : Cond.methodLink "TrellistagLaw" 17 ⟨"Trellistag", "add", "()I"⟩ ∈ w_all := w_in 549 (by decide +kernel) (by decide +kernel)
theorem wq_550 : Cond.instanceMethod ⟨"Trellistag", "add", "()I"⟩ ∈ w_all := w_in 550 (by decide +kernel) (by decide +kernel)
theorem wq_551 : Cond.selects "Trellistag" ⟨"Trellistag", "add", "()I"⟩ ⟨"Trellistag", "add", "()I"⟩ ∈ w_all := w_in 551 (by decide +kernel) (by decide +kernel)
theorem wq_553 : Cond.methodLink "Trellistag" 112 ⟨"Trellistag$Text", "isEmpty", "()Z"⟩ ∈ w_all := w_in 553 (by decide +kernel) (by decide +kernel)
theorem wq_554 : Cond.instanceMethod ⟨"Trellistag$Text", "isEmpty", "()Z"⟩ ∈ w_all := w_in 554 (by decide +kernel) (by decide +kernel)
theorem wq_555 : Cond.selects "Trellistag$Text" ⟨"Trellistag$Text", "isEmpty", "()Z"⟩ ⟨"Trellistag$Text", "isEmpty", "()Z"⟩ ∈ w_all := w_in 555 (by decide +kernel) (by decide +kernel)
theorem wq_558 : Cond.methodLink "Trellistag" 117 ⟨"Trellistag$Corpus", "isFull", "()Z"⟩ ∈ w_all := w_in 558 (by decide +kernel) (by decide +kernel)
theorem wq_559 : Cond.instanceMethod ⟨"Trellistag$Corpus", "isFull", "()Z"⟩ ∈ w_all := w_in 559 (by decide +kernel) (by decide +kernel)
theorem wq_560 : Cond.selects "Trellistag$Corpus" ⟨"Trellistag$Corpus", "isFull", "()Z"⟩ ⟨"Trellistag$Corpus", "isFull", "()Z"⟩ ∈ w_all := w_in 560 (by decide +kernel) (by decide +kernel)
theorem wq_563 : Cond.methodLink "Trellistag" 120 ⟨"Trellistag$Corpus", "keepDraft", "()I"⟩ ∈ w_all := w_in 563 (by decide +kernel) (by decide +kernel)
theorem wq_564 : Cond.instanceMethod ⟨"Trellistag$Corpus", "keepDraft", "()I"⟩ ∈ w_all := w_in 564 (by decide +kernel) (by decide +kernel)
theorem wq_565 : Cond.selects "Trellistag$Corpus" ⟨"Trellistag$Corpus", "keepDraft", "()I"⟩ ⟨"Trellistag$Corpus", "keepDraft", "()I"⟩ ∈ w_all := w_in 565 (by decide +kernel) (by decide +kernel)
theorem wq_567 : Cond.methodLink "Trellistag$Corpus" 34 ⟨"Trellistag$Corpus", "letCount", "(IZ)Z"⟩ ∈ w_all := w_in 567 (by decide +kernel) (by decide +kernel)
theorem wq_568 : Cond.instanceMethod ⟨"Trellistag$Corpus", "letCount", "(IZ)Z"⟩ ∈ w_all := w_in 568 (by decide +kernel) (by decide +kernel)
theorem wq_569 : Cond.selects "Trellistag$Corpus" ⟨"Trellistag$Corpus", "letCount", "(IZ)Z"⟩ ⟨"Trellistag$Corpus", "letCount", "(IZ)Z"⟩ ∈ w_all := w_in 569 (by decide +kernel) (by decide +kernel)
theorem wq_571 : Cond.methodLink "Trellistag$Corpus" 42 ⟨"Trellistag$Corpus", "change", "(LTrellistag$Text;I)V"⟩ ∈ w_all := w_in 571 (by decide +kernel) (by decide +kernel)
theorem wq_573 : Cond.instanceMethod ⟨"Trellistag$Corpus", "change", "(LTrellistag$Text;I)V"⟩ ∈ w_all := w_in 573 (by decide +kernel) (by decide +kernel)
theorem wq_575 : Cond.methodLink "TrellistagLaw" 21 ⟨"Trellistag", "text", "(IZ)Z"⟩ ∈ w_all := w_in 575 (by decide +kernel) (by decide +kernel)
theorem wq_576 : Cond.instanceMethod ⟨"Trellistag", "text", "(IZ)Z"⟩ ∈ w_all := w_in 576 (by decide +kernel) (by decide +kernel)
theorem wq_577 : Cond.selects "Trellistag" ⟨"Trellistag", "text", "(IZ)Z"⟩ ⟨"Trellistag", "text", "(IZ)Z"⟩ ∈ w_all := w_in 577 (by decide +kernel) (by decide +kernel)
theorem wq_579 : Cond.methodLink "Trellistag" 123 ⟨"Trellistag$Corpus", "holds", "(I)Z"⟩ ∈ w_all := w_in 579 (by decide +kernel) (by decide +kernel)
theorem wq_580 : Cond.instanceMethod ⟨"Trellistag$Corpus", "holds", "(I)Z"⟩ ∈ w_all := w_in 580 (by decide +kernel) (by decide +kernel)
theorem wq_581 : Cond.selects "Trellistag$Corpus" ⟨"Trellistag$Corpus", "holds", "(I)Z"⟩ ⟨"Trellistag$Corpus", "holds", "(I)Z"⟩ ∈ w_all := w_in 581 (by decide +kernel) (by decide +kernel)
theorem wq_584 : Cond.methodLink "Trellistag" 132 ⟨"Trellistag$Corpus", "letCount", "(IZ)Z"⟩ ∈ w_all := w_in 584 (by decide +kernel) (by decide +kernel)
theorem wq_585 : Cond.methodLink "TrellistagLaw" 25 ⟨"Trellistag", "word", "()I"⟩ ∈ w_all := w_in 585 (by decide +kernel) (by decide +kernel)
theorem wq_586 : Cond.instanceMethod ⟨"Trellistag", "word", "()I"⟩ ∈ w_all := w_in 586 (by decide +kernel) (by decide +kernel)
theorem wq_587 : Cond.selects "Trellistag" ⟨"Trellistag", "word", "()I"⟩ ⟨"Trellistag", "word", "()I"⟩ ∈ w_all := w_in 587 (by decide +kernel) (by decide +kernel)
theorem wq_589 : Cond.methodLink "Trellistag" 136 ⟨"Trellistag$Sentence", "isFull", "()Z"⟩ ∈ w_all := w_in 589 (by decide +kernel) (by decide +kernel)
theorem wq_590 : Cond.instanceMethod ⟨"Trellistag$Sentence", "isFull", "()Z"⟩ ∈ w_all := w_in 590 (by decide +kernel) (by decide +kernel)
theorem wq_591 : Cond.selects "Trellistag$Sentence" ⟨"Trellistag$Sentence", "isFull", "()Z"⟩ ⟨"Trellistag$Sentence", "isFull", "()Z"⟩ ∈ w_all := w_in 591 (by decide +kernel) (by decide +kernel)
theorem wq_594 : Cond.methodLink "Trellistag" 139 ⟨"Trellistag$Sentence", "append", "(I)I"⟩ ∈ w_all := w_in 594 (by decide +kernel) (by decide +kernel)
theorem wq_595 : Cond.instanceMethod ⟨"Trellistag$Sentence", "append", "(I)I"⟩ ∈ w_all := w_in 595 (by decide +kernel) (by decide +kernel)
theorem wq_596 : Cond.selects "Trellistag$Sentence" ⟨"Trellistag$Sentence", "append", "(I)I"⟩ ⟨"Trellistag$Sentence", "append", "(I)I"⟩ ∈ w_all := w_in 596 (by decide +kernel) (by decide +kernel)
theorem wq_598 : Cond.methodLink "TrellistagLaw" 28 ⟨"Trellistag", "lock", "(II)I"⟩ ∈ w_all := w_in 598 (by decide +kernel) (by decide +kernel)
theorem wq_599 : Cond.instanceMethod ⟨"Trellistag", "lock", "(II)I"⟩ ∈ w_all := w_in 599 (by decide +kernel) (by decide +kernel)
theorem wq_600 : Cond.selects "Trellistag" ⟨"Trellistag", "lock", "(II)I"⟩ ⟨"Trellistag", "lock", "(II)I"⟩ ∈ w_all := w_in 600 (by decide +kernel) (by decide +kernel)
theorem wq_602 : Cond.methodLink "Trellistag" 145 ⟨"Trellistag", "requirePlace", "(I)V"⟩ ∈ w_all := w_in 602 (by decide +kernel) (by decide +kernel)
theorem wq_604 : Cond.instanceMethod ⟨"Trellistag", "requirePlace", "(I)V"⟩ ∈ w_all := w_in 604 (by decide +kernel) (by decide +kernel)
theorem wq_607 : Cond.methodLink "Trellistag" 148 ⟨"Trellistag", "requireTagOrNone", "(I)V"⟩ ∈ w_all := w_in 607 (by decide +kernel) (by decide +kernel)
theorem wq_608 : Cond.static ⟨"Trellistag", "requireTagOrNone", "(I)V"⟩ ∈ w_all := w_in 608 (by decide +kernel) (by decide +kernel)
theorem wq_610 : Cond.methodLink "Trellistag" 151 ⟨"Trellistag$Sentence", "lockTo", "(II)I"⟩ ∈ w_all := w_in 610 (by decide +kernel) (by decide +kernel)
theorem wq_611 : Cond.instanceMethod ⟨"Trellistag$Sentence", "lockTo", "(II)I"⟩ ∈ w_all := w_in 611 (by decide +kernel) (by decide +kernel)
theorem wq_612 : Cond.selects "Trellistag$Sentence" ⟨"Trellistag$Sentence", "lockTo", "(II)I"⟩ ⟨"Trellistag$Sentence", "lockTo", "(II)I"⟩ ∈ w_all := w_in 612 (by decide +kernel) (by decide +kernel)
theorem wq_614 : Cond.methodLink "TrellistagLaw" 32 ⟨"Trellistag", "weight", "(I)I"⟩ ∈ w_all := w_in 614 (by decide +kernel) (by decide +kernel)
theorem wq_615 : Cond.instanceMethod ⟨"Trellistag", "weight", "(I)I"⟩ ∈ w_all := w_in 615 (by decide +kernel) (by decide +kernel)
theorem wq_616 : Cond.selects "Trellistag" ⟨"Trellistag", "weight", "(I)I"⟩ ⟨"Trellistag", "weight", "(I)I"⟩ ∈ w_all := w_in 616 (by decide +kernel) (by decide +kernel)
theorem wq_618 : Cond.methodLink "Trellistag" 154 ⟨"Trellistag$TypedWord", "code", "()I"⟩ ∈ w_all := w_in 618 (by decide +kernel) (by decide +kernel)
theorem wq_619 : Cond.instanceMethod ⟨"Trellistag$TypedWord", "code", "()I"⟩ ∈ w_all := w_in 619 (by decide +kernel) (by decide +kernel)
theorem wq_620 : Cond.selects "Trellistag$TypedWord" ⟨"Trellistag$TypedWord", "code", "()I"⟩ ⟨"Trellistag$TypedWord", "code", "()I"⟩ ∈ w_all := w_in 620 (by decide +kernel) (by decide +kernel)
theorem wq_622 : Cond.methodLink "Trellistag" 157 ⟨"Trellistag$Corpus", "weigh", "(I[I)V"⟩ ∈ w_all := w_in 622 (by decide +kernel) (by decide +kernel)
theorem wq_623 : Cond.methodLink "TrellistagLaw" 35 ⟨"Trellistag", "step", "(II)I"⟩ ∈ w_all := w_in 623 (by decide +kernel) (by decide +kernel)
theorem wq_624 : Cond.instanceMethod ⟨"Trellistag", "step", "(II)I"⟩ ∈ w_all := w_in 624 (by decide +kernel) (by decide +kernel)
theorem wq_625 : Cond.selects "Trellistag" ⟨"Trellistag", "step", "(II)I"⟩ ⟨"Trellistag", "step", "(II)I"⟩ ∈ w_all := w_in 625 (by decide +kernel) (by decide +kernel)
theorem wq_627 : Cond.methodLink "Trellistag" 161 ⟨"Trellistag$Corpus", "stepWeight", "(II)I"⟩ ∈ w_all := w_in 627 (by decide +kernel) (by decide +kernel)
theorem wq_628 : Cond.methodLink "TrellistagLaw" 38 ⟨"Trellistag", "path", "(II)I"⟩ ∈ w_all := w_in 628 (by decide +kernel) (by decide +kernel)
theorem wq_629 : Cond.instanceMethod ⟨"Trellistag", "path", "(II)I"⟩ ∈ w_all := w_in 629 (by decide +kernel) (by decide +kernel)
theorem wq_630 : Cond.selects "Trellistag" ⟨"Trellistag", "path", "(II)I"⟩ ⟨"Trellistag", "path", "(II)I"⟩ ∈ w_all := w_in 630 (by decide +kernel) (by decide +kernel)
theorem wq_632 : Cond.methodLink "Trellistag" 164 ⟨"Trellistag", "tagOnPath", "(LTrellistag$PathFinder;II)I"⟩ ∈ w_all := w_in 632 (by decide +kernel) (by decide +kernel)
theorem wq_634 : Cond.instanceMethod ⟨"Trellistag", "tagOnPath", "(LTrellistag$PathFinder;II)I"⟩ ∈ w_all := w_in 634 (by decide +kernel) (by decide +kernel)
theorem wq_636 : Cond.methodLink "Trellistag" 195 ⟨"Trellistag$Ranking", "tagOf", "(II)I"⟩ ∈ w_all := w_in 636 (by decide +kernel) (by decide +kernel)
theorem wq_637 : Cond.instanceMethod ⟨"Trellistag$Ranking", "tagOf", "(II)I"⟩ ∈ w_all := w_in 637 (by decide +kernel) (by decide +kernel)
theorem wq_638 : Cond.selects "Trellistag$Ranking" ⟨"Trellistag$Ranking", "tagOf", "(II)I"⟩ ⟨"Trellistag$Ranking", "tagOf", "(II)I"⟩ ∈ w_all := w_in 638 (by decide +kernel) (by decide +kernel)
theorem wq_640 : Cond.methodLink "TrellistagLaw" 41 ⟨"Trellistag", "pathAnew", "(II)I"⟩ ∈ w_all := w_in 640 (by decide +kernel) (by decide +kernel)
theorem wq_641 : Cond.instanceMethod ⟨"Trellistag", "pathAnew", "(II)I"⟩ ∈ w_all := w_in 641 (by decide +kernel) (by decide +kernel)
theorem wq_642 : Cond.selects "Trellistag" ⟨"Trellistag", "pathAnew", "(II)I"⟩ ⟨"Trellistag", "pathAnew", "(II)I"⟩ ∈ w_all := w_in 642 (by decide +kernel) (by decide +kernel)
theorem wq_644 : Cond.methodLink "TrellistagLaw" 44 ⟨"Trellistag", "share", "(II)I"⟩ ∈ w_all := w_in 644 (by decide +kernel) (by decide +kernel)
theorem wq_645 : Cond.instanceMethod ⟨"Trellistag", "share", "(II)I"⟩ ∈ w_all := w_in 645 (by decide +kernel) (by decide +kernel)
theorem wq_646 : Cond.selects "Trellistag" ⟨"Trellistag", "share", "(II)I"⟩ ⟨"Trellistag", "share", "(II)I"⟩ ∈ w_all := w_in 646 (by decide +kernel) (by decide +kernel)
theorem wq_648 : Cond.methodLink "Trellistag" 186 ⟨"Trellistag", "shareOfTag", "(LTrellistag$PathFinder;II)I"⟩ ∈ w_all := w_in 648 (by decide +kernel) (by decide +kernel)
theorem wq_650 : Cond.instanceMethod ⟨"Trellistag", "shareOfTag", "(LTrellistag$PathFinder;II)I"⟩ ∈ w_all := w_in 650 (by decide +kernel) (by decide +kernel)
theorem wq_652 : Cond.methodLink "Trellistag" 209 ⟨"Trellistag$PathFinder", "sumInto", "([JI)V"⟩ ∈ w_all := w_in 652 (by decide +kernel) (by decide +kernel)
theorem wq_653 : Cond.declares ⟨"Trellistag$PathFinder", "sumInto", "([JI)V"⟩ ∈ w_bad := w_bin 653 (by decide +kernel) (by decide +kernel)
theorem wq_654 : Cond.sameMethod "Trellistag$PathFinder" "Trellistag$PathFinder" "sumInto" "([JI)V" ∈ w_all := w_in 654 (by decide +kernel) (by decide +kernel)
theorem wq_655 : Cond.selects "Trellistag$AllPaths" ⟨"Trellistag$PathFinder", "sumInto", "([JI)V"⟩ ⟨"Trellistag$AllPaths", "sumInto", "([JI)V"⟩ ∈ w_all := w_in 655 (by decide +kernel) (by decide +kernel)
theorem wq_656 : Cond.instanceMethod ⟨"Trellistag$AllPaths", "sumInto", "([JI)V"⟩ ∈ w_all := w_in 656 (by decide +kernel) (by decide +kernel)
theorem wq_658 : Cond.selects "Trellistag$Trellis" ⟨"Trellistag$PathFinder", "sumInto", "([JI)V"⟩ ⟨"Trellistag$Trellis", "sumInto", "([JI)V"⟩ ∈ w_all := w_in 658 (by decide +kernel) (by decide +kernel)
theorem wq_659 : Cond.instanceMethod ⟨"Trellistag$Trellis", "sumInto", "([JI)V"⟩ ∈ w_all := w_in 659 (by decide +kernel) (by decide +kernel)
theorem wq_661 : Cond.methodLink "Trellistag$Trellis" 63 ⟨"Trellistag$Trellis", "sumAhead", "(II)J"⟩ ∈ w_all := w_in 661 (by decide +kernel) (by decide +kernel)
theorem wq_663 : Cond.instanceMethod ⟨"Trellistag$Trellis", "sumAhead", "(II)J"⟩ ∈ w_all := w_in 663 (by decide +kernel) (by decide +kernel)
theorem wq_665 : Cond.methodLink "Trellistag$Trellis" 67 ⟨"Trellistag$Trellis", "sumBehind", "(II)J"⟩ ∈ w_all := w_in 665 (by decide +kernel) (by decide +kernel)
theorem wq_667 : Cond.instanceMethod ⟨"Trellistag$Trellis", "sumBehind", "(II)J"⟩ ∈ w_all := w_in 667 (by decide +kernel) (by decide +kernel)
theorem wq_669 : Cond.methodLink "Trellistag" 213 ⟨"Trellistag", "total", "([J)J"⟩ ∈ w_all := w_in 669 (by decide +kernel) (by decide +kernel)
theorem wq_670 : Cond.static ⟨"Trellistag", "total", "([J)J"⟩ ∈ w_all := w_in 670 (by decide +kernel) (by decide +kernel)
theorem wq_672 : Cond.methodLink "Trellistag" 217 ⟨"Trellistag", "thousandths", "(JJ)I"⟩ ∈ w_all := w_in 672 (by decide +kernel) (by decide +kernel)
theorem wq_673 : Cond.static ⟨"Trellistag", "thousandths", "(JJ)I"⟩ ∈ w_all := w_in 673 (by decide +kernel) (by decide +kernel)
theorem wq_675 : Cond.constantLong "Trellistag" 221 (1000 : Int64) ∈ w_all := w_in 675 (by decide +kernel) (by decide +kernel)
theorem wq_676 : Cond.methodLink "TrellistagLaw" 47 ⟨"Trellistag", "shareAnew", "(II)I"⟩ ∈ w_all := w_in 676 (by decide +kernel) (by decide +kernel)
theorem wq_677 : Cond.instanceMethod ⟨"Trellistag", "shareAnew", "(II)I"⟩ ∈ w_all := w_in 677 (by decide +kernel) (by decide +kernel)
theorem wq_678 : Cond.selects "Trellistag" ⟨"Trellistag", "shareAnew", "(II)I"⟩ ⟨"Trellistag", "shareAnew", "(II)I"⟩ ∈ w_all := w_in 678 (by decide +kernel) (by decide +kernel)
theorem wq_680 : Cond.methodLink "TrellistagLaw" 74 ⟨"TrellistagLaw", "draw", "([II)I"⟩ ∈ w_all := w_in 680 (by decide +kernel) (by decide +kernel)
theorem wq_681 : Cond.static ⟨"TrellistagLaw", "draw", "([II)I"⟩ ∈ w_all := w_in 681 (by decide +kernel) (by decide +kernel)
theorem wq_683 : Cond.constant "TrellistagLaw" 62 (3740017 : Int32) ∈ w_all := w_in 683 (by decide +kernel) (by decide +kernel)
theorem wq_684 : Cond.constant "TrellistagLaw" 63 (150053 : Int32) ∈ w_all := w_in 684 (by decide +kernel) (by decide +kernel)
theorem wq_685 : Cond.methodLink "TrellistagLaw" 92 ⟨"TrellistagLaw", "areRanks", "(LTrellistag;I[I[II)Z"⟩ ∈ w_all := w_in 685 (by decide +kernel) (by decide +kernel)
theorem wq_686 : Cond.static ⟨"TrellistagLaw", "areRanks", "(LTrellistag;I[I[II)Z"⟩ ∈ w_all := w_in 686 (by decide +kernel) (by decide +kernel)
theorem wq_688 : Cond.constantLong "TrellistagLaw" 64 (9223372036854775807 : Int64) ∈ w_all := w_in 688 (by decide +kernel) (by decide +kernel)
theorem wq_689 : Cond.methodLink "TrellistagLaw" 85 ⟨"TrellistagLaw", "areShares", "(LTrellistag;I[I)Z"⟩ ∈ w_all := w_in 689 (by decide +kernel) (by decide +kernel)
theorem wq_690 : Cond.static ⟨"TrellistagLaw", "areShares", "(LTrellistag;I[I)Z"⟩ ∈ w_all := w_in 690 (by decide +kernel) (by decide +kernel)
theorem wq_692 : Cond.constant "TrellistagLaw" 78 (134217727 : Int32) ∈ w_all := w_in 692 (by decide +kernel) (by decide +kernel)
section SOG
variable {P : Nat → mMD} {B b L : Nat} {xs : Nat → Int32} {D : va_G} {aC : Nat → ClassId} {p : Program} {l : Launch} {e : Env} {R : Room} {s : State} {m : MethodId} {args : Array Value} {below : List Frame} {meth : Method} {c : Code} {md : mMD} {d c0 s0 : Nat} {Q : State → Prop} {pc : Nat}

theorem so_mna_i {index : Nat} (X : Cx B b L xs D aC p l R s m args meth c md d) (hw1 : Cond.classLink (dY md).cls index "[[I" ∈ w_all) (hd : decode (dB md) pc = .ok (.multianewarray index 2, 4)) : SO P B b L xs D aC p l e R s m args below meth c md d c0 s0 Q pc (mo_mna 4 1 (pc + 4)) := by
  have e9 : "[" ++ (FieldType.array .int).toString = "[[I" := by decide +kernel
  refine so_mna (t := 4) (t1 := 1) (ty := .int) (z := fun K => (K, .inl (fun _ => 0))) X (by omega) (by omega) rfl rfl (by simp [w_over]) (by decide +kernel) (by rw [e9]; exact hw1) wq_88 (by decide +kernel) (by decide +kernel) (by decide +kernel) (fun c K => arrV_new c K _) (fun h H N K j hH hj => ?_) hd
  rw [oe_1 (by rw [rw_K1 hH hj])]
  have e8 : (mK (rowsOf h 4 1 N K) (mN h + 1 + j)).2 = K := by rw [rw_K1 hH hj]
  rw [e8]
  have e7 : (fun i => Int32.ofInt ((rowsOf h 4 1 N K).2 (mN h + 1 + j) i)) = fun _ => (0 : Int32) := by
    funext i; rw [rw_M1 hH]; rfl
  rw [e7]
theorem so_mna_j {index : Nat} (X : Cx B b L xs D aC p l R s m args meth c md d) (hw1 : Cond.classLink (dY md).cls index "[[J" ∈ w_all) (hd : decode (dB md) pc = .ok (.multianewarray index 2, 4)) : SO P B b L xs D aC p l e R s m args below meth c md d c0 s0 Q pc (mo_mna 5 2 (pc + 4)) := by
  have e9 : "[" ++ (FieldType.array .long).toString = "[[J" := by decide +kernel
  refine so_mna (t := 5) (t1 := 2) (ty := .long) (z := fun K => (K, .inr (.inl (fun _ => 0)))) X (by omega) (by omega) rfl rfl (by simp [w_over]) (by decide +kernel) (by rw [e9]; exact hw1) wq_169 (by decide +kernel) (by decide +kernel) (by decide +kernel) (fun c K => arrV_new c K _) (fun h H N K j hH hj => ?_) hd
  rw [oe_2 (by rw [rw_K1 hH hj])]
  have e8 : (mK (rowsOf h 5 2 N K) (mN h + 1 + j)).2 = K := by rw [rw_K1 hH hj]
  rw [e8]
  have e7 : (fun i => Int64.ofInt ((rowsOf h 5 2 N K).2 (mN h + 1 + j) i)) = fun _ => (0 : Int64) := by
    funext i; rw [rw_M1 hH]; rfl
  rw [e7]
end SOG
def SJ (L : Nat) (xs : Nat → Int32) (md : mMD) (q : Nat × mOP) : Prop := ∀ (B b : Nat) (D : va_G) (aC : Nat → ClassId) (p : Program) (l : Launch) (e : Env) (R : Room) (s : State) (m : MethodId) (args : Array Value) (below : List Frame) (meth : Method) (c : Code) (d c0 s0 : Nat) (Q : State → Prop), Cx B b L xs D aC p l R s m args meth c md d → SO (PP L xs) B b L xs D aC p l e R s m args below meth c md d c0 s0 Q q.1 q.2
