/-! ===== BEGIN printed: names, fields, word lists, decode rows ===== -/
def RX0 : String := "Trellistag$AllPaths"
def TX0 : u_T := fun k => match k with
  | 0 => ("Trellistag$AllPaths", "lattice", "LTrellistag$Lattice;", true)
  | 1 => ("Trellistag$AllPaths", "tags", "[I", true)
  | 2 => ("Trellistag$AllPaths", "weights", "[J", true)
  | _ => ("Trellistag$AllPaths", "paths", "[I", true)
def tyX0 : Nat → FieldType := fun k => match k with
  | 0 => .object "Trellistag$Lattice"
  | 1 => .array .int
  | 2 => .array .long
  | _ => .array .int
abbrev wsX00 : List Cond := u_ws RX0 TX0 4
theorem nmX0 : ∀ a, a < 4 → ∀ b, b < 4 → a ≠ b → (TX0 a).2.1 ≠ (TX0 b).2.1 := by decide +kernel
theorem tyX0_ok : ∀ k, k < 4 → parseFieldDescriptor (TX0 k).2.2.1 = some (tyX0 k) := by decide +kernel
abbrev cX0_init : ByteArray := prog_2_method_1_code
def yX0_init : MethodName := ⟨RX0, "<init>", "(LTrellistag$Lattice;)V"⟩
abbrev cX0_rankInto : ByteArray := prog_2_method_2_code
def yX0_rankInto : MethodName := ⟨RX0, "rankInto", "(LTrellistag$Ranking;)V"⟩
abbrev cX0_sumInto : ByteArray := prog_2_method_3_code
def yX0_sumInto : MethodName := ⟨RX0, "sumInto", "([JI)V"⟩
abbrev cX0_countPaths : ByteArray := prog_2_method_4_code
def yX0_countPaths : MethodName := ⟨RX0, "countPaths", "()I"⟩
abbrev cX0_startWalk : ByteArray := prog_2_method_5_code
def yX0_startWalk : MethodName := ⟨RX0, "startWalk", "()V"⟩
abbrev cX0_goOn : ByteArray := prog_2_method_6_code
def yX0_goOn : MethodName := ⟨RX0, "goOn", "()V"⟩
abbrev cX0_weighFrom : ByteArray := prog_2_method_7_code
def yX0_weighFrom : MethodName := ⟨RX0, "weighFrom", "(I)V"⟩
def RX1 : String := "Trellistag$Corpus"
def TX1 : u_T := fun k => match k with
  | 0 => ("Trellistag$Corpus", "texts", "[LTrellistag$Text;", true)
  | 1 => ("Trellistag$Corpus", "firsts", "[I", true)
  | 2 => ("Trellistag$Corpus", "steps", "[[I", true)
  | 3 => ("Trellistag$Corpus", "size", "I", false)
  | _ => ("Trellistag$Corpus", "counting", "I", false)
def tyX1 : Nat → FieldType := fun k => match k with
  | 0 => .array (.object "Trellistag$Text")
  | 1 => .array .int
  | 2 => .array (.array .int)
  | 3 => .int
  | _ => .int
abbrev wsX10 : List Cond := u_ws RX1 TX1 5
theorem nmX1 : ∀ a, a < 5 → ∀ b, b < 5 → a ≠ b → (TX1 a).2.1 ≠ (TX1 b).2.1 := by decide +kernel
theorem tyX1_ok : ∀ k, k < 5 → parseFieldDescriptor (TX1 k).2.2.1 = some (tyX1 k) := by decide +kernel
abbrev cX1_init : ByteArray := prog_3_method_1_code
def yX1_init : MethodName := ⟨RX1, "<init>", "()V"⟩
abbrev cX1_draft : ByteArray := prog_3_method_2_code
def yX1_draft : MethodName := ⟨RX1, "draft", "()LTrellistag$Text;"⟩
abbrev cX1_isFull : ByteArray := prog_3_method_3_code
def yX1_isFull : MethodName := ⟨RX1, "isFull", "()Z"⟩
abbrev cX1_holds : ByteArray := prog_3_method_4_code
def yX1_holds : MethodName := ⟨RX1, "holds", "(I)Z"⟩
abbrev cX1_counting : ByteArray := prog_3_method_5_code
def yX1_counting : MethodName := ⟨RX1, "counting", "()I"⟩
abbrev cX1_keepDraft : ByteArray := prog_3_method_6_code
def yX1_keepDraft : MethodName := ⟨RX1, "keepDraft", "()I"⟩
abbrev cX1_letCount : ByteArray := prog_3_method_7_code
def yX1_letCount : MethodName := ⟨RX1, "letCount", "(IZ)Z"⟩
abbrev cX1_change : ByteArray := prog_3_method_8_code
def yX1_change : MethodName := ⟨RX1, "change", "(LTrellistag$Text;I)V"⟩
abbrev cX1_stepWeight : ByteArray := prog_3_method_9_code
def yX1_stepWeight : MethodName := ⟨RX1, "stepWeight", "(II)I"⟩
abbrev cX1_weigh : ByteArray := prog_3_method_10_code
def yX1_weigh : MethodName := ⟨RX1, "weigh", "(I[I)V"⟩
abbrev cX1_factorOf : ByteArray := prog_3_method_11_code
def yX1_factorOf : MethodName := ⟨RX1, "factorOf", "(I)I"⟩
abbrev cX1_countInText : ByteArray := prog_3_method_12_code
def yX1_countInText : MethodName := ⟨RX1, "countInText", "(LTrellistag$Text;II[I)I"⟩
abbrev cX1_likeness : ByteArray := prog_3_method_13_code
def yX1_likeness : MethodName := ⟨RX1, "likeness", "(II)I"⟩
abbrev cX1_clearRow : ByteArray := prog_3_method_14_code
def yX1_clearRow : MethodName := ⟨RX1, "clearRow", "([I)V"⟩
def RX2 : String := "Trellistag$Lattice"
def TX2 : u_T := fun k => match k with
  | 0 => ("Trellistag$Lattice", "corpus", "LTrellistag$Corpus;", true)
  | 1 => ("Trellistag$Lattice", "sentence", "LTrellistag$Sentence;", true)
  | 2 => ("Trellistag$Lattice", "wordWeights", "[[I", true)
  | _ => ("Trellistag$Lattice", "stepWeights", "[[I", true)
def tyX2 : Nat → FieldType := fun k => match k with
  | 0 => .object "Trellistag$Corpus"
  | 1 => .object "Trellistag$Sentence"
  | 2 => .array (.array .int)
  | _ => .array (.array .int)
abbrev wsX20 : List Cond := u_ws RX2 TX2 4
theorem nmX2 : ∀ a, a < 4 → ∀ b, b < 4 → a ≠ b → (TX2 a).2.1 ≠ (TX2 b).2.1 := by decide +kernel
theorem tyX2_ok : ∀ k, k < 4 → parseFieldDescriptor (TX2 k).2.2.1 = some (tyX2 k) := by decide +kernel
abbrev cX2_init : ByteArray := prog_4_method_1_code
def yX2_init : MethodName := ⟨RX2, "<init>", "(LTrellistag$Corpus;LTrellistag$Sentence;)V"⟩
abbrev cX2_size : ByteArray := prog_4_method_2_code
def yX2_size : MethodName := ⟨RX2, "size", "()I"⟩
abbrev cX2_weighAll : ByteArray := prog_4_method_3_code
def yX2_weighAll : MethodName := ⟨RX2, "weighAll", "()V"⟩
abbrev cX2_ruleOut : ByteArray := prog_4_method_4_code
def yX2_ruleOut : MethodName := ⟨RX2, "ruleOut", "(I)V"⟩
abbrev cX2_arc : ByteArray := prog_4_method_5_code
def yX2_arc : MethodName := ⟨RX2, "arc", "(III)J"⟩
def RX3 : String := "Trellistag$PathFinder"
def TX3 : u_T := fun k => match k with
  | _ => ("", "", "", false)
def tyX3 : Nat → FieldType := fun k => match k with
  | _ => .int
abbrev wsX30 : List Cond := u_ws RX3 TX3 0
theorem nmX3 : ∀ a, a < 0 → ∀ b, b < 0 → a ≠ b → (TX3 a).2.1 ≠ (TX3 b).2.1 := by decide +kernel
theorem tyX3_ok : ∀ k, k < 0 → parseFieldDescriptor (TX3 k).2.2.1 = some (tyX3 k) := by decide +kernel
abbrev cX3_init : ByteArray := prog_5_method_1_code
def yX3_init : MethodName := ⟨RX3, "<init>", "()V"⟩
def RX4 : String := "Trellistag$Ranking"
def TX4 : u_T := fun k => match k with
  | 0 => ("Trellistag$Ranking", "weights", "[J", true)
  | 1 => ("Trellistag$Ranking", "paths", "[I", true)
  | _ => ("Trellistag$Ranking", "size", "I", false)
def tyX4 : Nat → FieldType := fun k => match k with
  | 0 => .array .long
  | 1 => .array .int
  | _ => .int
abbrev wsX40 : List Cond := u_ws RX4 TX4 3
theorem nmX4 : ∀ a, a < 3 → ∀ b, b < 3 → a ≠ b → (TX4 a).2.1 ≠ (TX4 b).2.1 := by decide +kernel
theorem tyX4_ok : ∀ k, k < 3 → parseFieldDescriptor (TX4 k).2.2.1 = some (tyX4 k) := by decide +kernel
abbrev cX4_init : ByteArray := prog_6_method_1_code
def yX4_init : MethodName := ⟨RX4, "<init>", "()V"⟩
abbrev cX4_removeAll : ByteArray := prog_6_method_2_code
def yX4_removeAll : MethodName := ⟨RX4, "removeAll", "()V"⟩
abbrev cX4_offer : ByteArray := prog_6_method_3_code
def yX4_offer : MethodName := ⟨RX4, "offer", "(JI)V"⟩
abbrev cX4_insert : ByteArray := prog_6_method_4_code
def yX4_insert : MethodName := ⟨RX4, "insert", "(IJI)V"⟩
abbrev cX4_offerAll : ByteArray := prog_6_method_5_code
def yX4_offerAll : MethodName := ⟨RX4, "offerAll", "(LTrellistag$Ranking;)V"⟩
abbrev cX4_offerExtended : ByteArray := prog_6_method_6_code
def yX4_offerExtended : MethodName := ⟨RX4, "offerExtended", "(LTrellistag$Ranking;JI)V"⟩
abbrev cX4_weightOf : ByteArray := prog_6_method_7_code
def yX4_weightOf : MethodName := ⟨RX4, "weightOf", "(I)J"⟩
abbrev cX4_tagOf : ByteArray := prog_6_method_8_code
def yX4_tagOf : MethodName := ⟨RX4, "tagOf", "(II)I"⟩
abbrev cX4_extended : ByteArray := prog_6_method_9_code
def yX4_extended : MethodName := ⟨RX4, "extended", "(II)I"⟩
def RX5 : String := "Trellistag$Sentence"
def TX5 : u_T := fun k => match k with
  | 0 => ("Trellistag$Sentence", "words", "[I", true)
  | 1 => ("Trellistag$Sentence", "locks", "[I", true)
  | _ => ("Trellistag$Sentence", "size", "I", false)
def tyX5 : Nat → FieldType := fun k => match k with
  | 0 => .array .int
  | 1 => .array .int
  | _ => .int
abbrev wsX50 : List Cond := u_ws RX5 TX5 3
theorem nmX5 : ∀ a, a < 3 → ∀ b, b < 3 → a ≠ b → (TX5 a).2.1 ≠ (TX5 b).2.1 := by decide +kernel
theorem tyX5_ok : ∀ k, k < 3 → parseFieldDescriptor (TX5 k).2.2.1 = some (tyX5 k) := by decide +kernel
abbrev cX5_init : ByteArray := prog_7_method_1_code
def yX5_init : MethodName := ⟨RX5, "<init>", "()V"⟩
abbrev cX5_size : ByteArray := prog_7_method_2_code
def yX5_size : MethodName := ⟨RX5, "size", "()I"⟩
abbrev cX5_isFull : ByteArray := prog_7_method_3_code
def yX5_isFull : MethodName := ⟨RX5, "isFull", "()Z"⟩
abbrev cX5_append : ByteArray := prog_7_method_4_code
def yX5_append : MethodName := ⟨RX5, "append", "(I)I"⟩
abbrev cX5_removeAll : ByteArray := prog_7_method_5_code
def yX5_removeAll : MethodName := ⟨RX5, "removeAll", "()I"⟩
abbrev cX5_wordAt : ByteArray := prog_7_method_6_code
def yX5_wordAt : MethodName := ⟨RX5, "wordAt", "(I)I"⟩
abbrev cX5_lockTo : ByteArray := prog_7_method_7_code
def yX5_lockTo : MethodName := ⟨RX5, "lockTo", "(II)I"⟩
abbrev cX5_allows : ByteArray := prog_7_method_8_code
def yX5_allows : MethodName := ⟨RX5, "allows", "(II)Z"⟩
def RX6 : String := "Trellistag$Text"
def TX6 : u_T := fun k => match k with
  | 0 => ("Trellistag$Text", "words", "[I", true)
  | 1 => ("Trellistag$Text", "tags", "[I", true)
  | 2 => ("Trellistag$Text", "size", "I", false)
  | _ => ("Trellistag$Text", "counts", "Z", false)
def tyX6 : Nat → FieldType := fun k => match k with
  | 0 => .array .int
  | 1 => .array .int
  | 2 => .int
  | _ => .boolean
abbrev wsX60 : List Cond := u_ws RX6 TX6 4
theorem nmX6 : ∀ a, a < 4 → ∀ b, b < 4 → a ≠ b → (TX6 a).2.1 ≠ (TX6 b).2.1 := by decide +kernel
theorem tyX6_ok : ∀ k, k < 4 → parseFieldDescriptor (TX6 k).2.2.1 = some (tyX6 k) := by decide +kernel
abbrev cX6_init : ByteArray := prog_8_method_1_code
def yX6_init : MethodName := ⟨RX6, "<init>", "()V"⟩
abbrev cX6_isEmpty : ByteArray := prog_8_method_2_code
def yX6_isEmpty : MethodName := ⟨RX6, "isEmpty", "()Z"⟩
abbrev cX6_isFull : ByteArray := prog_8_method_3_code
def yX6_isFull : MethodName := ⟨RX6, "isFull", "()Z"⟩
abbrev cX6_append : ByteArray := prog_8_method_4_code
def yX6_append : MethodName := ⟨RX6, "append", "(II)I"⟩
def RX7 : String := "Trellistag$Trellis"
def TX7 : u_T := fun k => match k with
  | 0 => ("Trellistag$Trellis", "lattice", "LTrellistag$Lattice;", true)
  | 1 => ("Trellistag$Trellis", "rankings", "[LTrellistag$Ranking;", true)
  | 2 => ("Trellistag$Trellis", "sumsAhead", "[[J", true)
  | _ => ("Trellistag$Trellis", "sumsBehind", "[[J", true)
def tyX7 : Nat → FieldType := fun k => match k with
  | 0 => .object "Trellistag$Lattice"
  | 1 => .array (.object "Trellistag$Ranking")
  | 2 => .array (.array .long)
  | _ => .array (.array .long)
abbrev wsX70 : List Cond := u_ws RX7 TX7 4
theorem nmX7 : ∀ a, a < 4 → ∀ b, b < 4 → a ≠ b → (TX7 a).2.1 ≠ (TX7 b).2.1 := by decide +kernel
theorem tyX7_ok : ∀ k, k < 4 → parseFieldDescriptor (TX7 k).2.2.1 = some (tyX7 k) := by decide +kernel
abbrev cX7_init : ByteArray := prog_9_method_1_code
def yX7_init : MethodName := ⟨RX7, "<init>", "(LTrellistag$Lattice;)V"⟩
abbrev cX7_rankInto : ByteArray := prog_9_method_2_code
def yX7_rankInto : MethodName := ⟨RX7, "rankInto", "(LTrellistag$Ranking;)V"⟩
abbrev cX7_rankUpTo : ByteArray := prog_9_method_3_code
def yX7_rankUpTo : MethodName := ⟨RX7, "rankUpTo", "(II)V"⟩
abbrev cX7_rankingAt : ByteArray := prog_9_method_4_code
def yX7_rankingAt : MethodName := ⟨RX7, "rankingAt", "(II)LTrellistag$Ranking;"⟩
abbrev cX7_sumInto : ByteArray := prog_9_method_5_code
def yX7_sumInto : MethodName := ⟨RX7, "sumInto", "([JI)V"⟩
abbrev cX7_sumAhead : ByteArray := prog_9_method_6_code
def yX7_sumAhead : MethodName := ⟨RX7, "sumAhead", "(II)J"⟩
abbrev cX7_sumBehind : ByteArray := prog_9_method_7_code
def yX7_sumBehind : MethodName := ⟨RX7, "sumBehind", "(II)J"⟩
def RX8 : String := "Trellistag$TypedWord"
def TX8 : u_T := fun k => match k with
  | 0 => ("Trellistag$TypedWord", "code", "I", false)
  | _ => ("Trellistag$TypedWord", "letters", "I", false)
def tyX8 : Nat → FieldType := fun k => match k with
  | 0 => .int
  | _ => .int
abbrev wsX80 : List Cond := u_ws RX8 TX8 2
theorem nmX8 : ∀ a, a < 2 → ∀ b, b < 2 → a ≠ b → (TX8 a).2.1 ≠ (TX8 b).2.1 := by decide +kernel
theorem tyX8_ok : ∀ k, k < 2 → parseFieldDescriptor (TX8 k).2.2.1 = some (tyX8 k) := by decide +kernel
abbrev cX8_init : ByteArray := prog_10_method_1_code
def yX8_init : MethodName := ⟨RX8, "<init>", "()V"⟩
abbrev cX8_isEmpty : ByteArray := prog_10_method_2_code
def yX8_isEmpty : MethodName := ⟨RX8, "isEmpty", "()Z"⟩
abbrev cX8_isFull : ByteArray := prog_10_method_3_code
def yX8_isFull : MethodName := ⟨RX8, "isFull", "()Z"⟩
abbrev cX8_append : ByteArray := prog_10_method_4_code
def yX8_append : MethodName := ⟨RX8, "append", "(C)I"⟩
abbrev cX8_code : ByteArray := prog_10_method_5_code
def yX8_code : MethodName := ⟨RX8, "code", "()I"⟩
abbrev cX8_take : ByteArray := prog_10_method_6_code
def yX8_take : MethodName := ⟨RX8, "take", "()I"⟩
def RX9 : String := "Trellistag"
def TX9 : u_T := fun k => match k with
  | 0 => ("Trellistag", "typed", "LTrellistag$TypedWord;", true)
  | 1 => ("Trellistag", "corpus", "LTrellistag$Corpus;", true)
  | 2 => ("Trellistag", "sentence", "LTrellistag$Sentence;", true)
  | 3 => ("Trellistag", "lattice", "LTrellistag$Lattice;", true)
  | 4 => ("Trellistag", "trellis", "LTrellistag$PathFinder;", true)
  | 5 => ("Trellistag", "allPaths", "LTrellistag$PathFinder;", true)
  | 6 => ("Trellistag", "best", "LTrellistag$Ranking;", true)
  | 7 => ("Trellistag", "tagWeights", "[I", true)
  | _ => ("Trellistag", "tagSums", "[J", true)
def tyX9 : Nat → FieldType := fun k => match k with
  | 0 => .object "Trellistag$TypedWord"
  | 1 => .object "Trellistag$Corpus"
  | 2 => .object "Trellistag$Sentence"
  | 3 => .object "Trellistag$Lattice"
  | 4 => .object "Trellistag$PathFinder"
  | 5 => .object "Trellistag$PathFinder"
  | 6 => .object "Trellistag$Ranking"
  | 7 => .array .int
  | _ => .array .long
abbrev wsX90 : List Cond := u_ws RX9 TX9 9
theorem nmX9 : ∀ a, a < 9 → ∀ b, b < 9 → a ≠ b → (TX9 a).2.1 ≠ (TX9 b).2.1 := by decide +kernel
theorem tyX9_ok : ∀ k, k < 9 → parseFieldDescriptor (TX9 k).2.2.1 = some (tyX9 k) := by decide +kernel
abbrev cX9_init : ByteArray := prog_1_method_1_code
def yX9_init : MethodName := ⟨RX9, "<init>", "()V"⟩
abbrev cX9_letter : ByteArray := prog_1_method_2_code
def yX9_letter : MethodName := ⟨RX9, "letter", "(C)I"⟩
abbrev cX9_tag : ByteArray := prog_1_method_3_code
def yX9_tag : MethodName := ⟨RX9, "tag", "(I)I"⟩
abbrev cX9_add : ByteArray := prog_1_method_4_code
def yX9_add : MethodName := ⟨RX9, "add", "()I"⟩
abbrev cX9_text : ByteArray := prog_1_method_5_code
def yX9_text : MethodName := ⟨RX9, "text", "(IZ)Z"⟩
abbrev cX9_word : ByteArray := prog_1_method_6_code
def yX9_word : MethodName := ⟨RX9, "word", "()I"⟩
abbrev cX9_clear : ByteArray := prog_1_method_7_code
def yX9_clear : MethodName := ⟨RX9, "clear", "()I"⟩
abbrev cX9_lock : ByteArray := prog_1_method_8_code
def yX9_lock : MethodName := ⟨RX9, "lock", "(II)I"⟩
abbrev cX9_weight : ByteArray := prog_1_method_9_code
def yX9_weight : MethodName := ⟨RX9, "weight", "(I)I"⟩
abbrev cX9_step : ByteArray := prog_1_method_10_code
def yX9_step : MethodName := ⟨RX9, "step", "(II)I"⟩
abbrev cX9_path : ByteArray := prog_1_method_11_code
def yX9_path : MethodName := ⟨RX9, "path", "(II)I"⟩
abbrev cX9_pathAnew : ByteArray := prog_1_method_12_code
def yX9_pathAnew : MethodName := ⟨RX9, "pathAnew", "(II)I"⟩
abbrev cX9_product : ByteArray := prog_1_method_13_code
def yX9_product : MethodName := ⟨RX9, "product", "(I)J"⟩
abbrev cX9_cost : ByteArray := prog_1_method_14_code
def yX9_cost : MethodName := ⟨RX9, "cost", "()I"⟩
abbrev cX9_share : ByteArray := prog_1_method_15_code
def yX9_share : MethodName := ⟨RX9, "share", "(II)I"⟩
abbrev cX9_shareAnew : ByteArray := prog_1_method_16_code
def yX9_shareAnew : MethodName := ⟨RX9, "shareAnew", "(II)I"⟩
abbrev cX9_texts : ByteArray := prog_1_method_17_code
def yX9_texts : MethodName := ⟨RX9, "texts", "()I"⟩
abbrev cX9_tagOnPath : ByteArray := prog_1_method_18_code
def yX9_tagOnPath : MethodName := ⟨RX9, "tagOnPath", "(LTrellistag$PathFinder;II)I"⟩
abbrev cX9_rankPaths : ByteArray := prog_1_method_19_code
def yX9_rankPaths : MethodName := ⟨RX9, "rankPaths", "(LTrellistag$PathFinder;)V"⟩
abbrev cX9_shareOfTag : ByteArray := prog_1_method_20_code
def yX9_shareOfTag : MethodName := ⟨RX9, "shareOfTag", "(LTrellistag$PathFinder;II)I"⟩
abbrev cX9_total : ByteArray := prog_1_method_21_code
def yX9_total : MethodName := ⟨RX9, "total", "([J)J"⟩
abbrev cX9_thousandths : ByteArray := prog_1_method_22_code
def yX9_thousandths : MethodName := ⟨RX9, "thousandths", "(JJ)I"⟩
abbrev cX9_doublings : ByteArray := prog_1_method_23_code
def yX9_doublings : MethodName := ⟨RX9, "doublings", "(J)I"⟩
abbrev cX9_isTag : ByteArray := prog_1_method_24_code
def yX9_isTag : MethodName := ⟨RX9, "isTag", "(I)Z"⟩
abbrev cX9_requireTag : ByteArray := prog_1_method_25_code
def yX9_requireTag : MethodName := ⟨RX9, "requireTag", "(I)V"⟩
abbrev cX9_requireTagOrNone : ByteArray := prog_1_method_26_code
def yX9_requireTagOrNone : MethodName := ⟨RX9, "requireTagOrNone", "(I)V"⟩
abbrev cX9_requireRank : ByteArray := prog_1_method_27_code
def yX9_requireRank : MethodName := ⟨RX9, "requireRank", "(I)V"⟩
abbrev cX9_requirePlace : ByteArray := prog_1_method_28_code
def yX9_requirePlace : MethodName := ⟨RX9, "requirePlace", "(I)V"⟩
abbrev cX9_requireTyped : ByteArray := prog_1_method_29_code
def yX9_requireTyped : MethodName := ⟨RX9, "requireTyped", "()V"⟩
abbrev cX9_requireSentence : ByteArray := prog_1_method_30_code
def yX9_requireSentence : MethodName := ⟨RX9, "requireSentence", "()V"⟩
def RX10 : String := "TrellistagModel"
def TX10 : u_T := fun k => match k with
  | _ => ("", "", "", false)
def tyX10 : Nat → FieldType := fun k => match k with
  | _ => .int
abbrev wsX100 : List Cond := u_ws RX10 TX10 0
theorem nmX10 : ∀ a, a < 0 → ∀ b, b < 0 → a ≠ b → (TX10 a).2.1 ≠ (TX10 b).2.1 := by decide +kernel
theorem tyX10_ok : ∀ k, k < 0 → parseFieldDescriptor (TX10 k).2.2.1 = some (tyX10 k) := by decide +kernel
def RJ9 : String := "java/lang/Math"
def TJ9 : u_T := fun k => match k with
  | _ => ("", "", "", false)
def tyJ9 : Nat → FieldType := fun k => match k with
  | _ => .int
abbrev wsJ90 : List Cond := u_ws RJ9 TJ9 0
theorem nmJ9 : ∀ a, a < 0 → ∀ b, b < 0 → a ≠ b → (TJ9 a).2.1 ≠ (TJ9 b).2.1 := by decide +kernel
theorem tyJ9_ok : ∀ k, k < 0 → parseFieldDescriptor (TJ9 k).2.2.1 = some (tyJ9 k) := by decide +kernel
abbrev cJ9_min_7cf53 : ByteArray := prog_17_method_69_code
def yJ9_min_7cf53 : MethodName := ⟨RJ9, "min", "(II)I"⟩
def RJ0 : String := "java/lang/String"
def TJ0 : u_T := fun k => match k with
  | _ => ("", "", "", false)
def tyJ0 : Nat → FieldType := fun k => match k with
  | _ => .int
abbrev wsJ00 : List Cond := u_ws RJ0 TJ0 0
theorem nmJ0 : ∀ a, a < 0 → ∀ b, b < 0 → a ≠ b → (TJ0 a).2.1 ≠ (TJ0 b).2.1 := by decide +kernel
theorem tyJ0_ok : ∀ k, k < 0 → parseFieldDescriptor (TJ0 k).2.2.1 = some (tyJ0 k) := by decide +kernel
def RL : String := "TrellistagLaw"
abbrev cL_call : ByteArray := method_2_code
def yL_call : MethodName := ⟨RL, "call", "(LTrellistag;III)I"⟩
abbrev cL_ask : ByteArray := method_3_code
def yL_ask : MethodName := ⟨RL, "ask", "(LTrellistag;III)I"⟩
abbrev cL_draw : ByteArray := method_4_code
def yL_draw : MethodName := ⟨RL, "draw", "([II)I"⟩
abbrev cL_areRanks : ByteArray := method_5_code
def yL_areRanks : MethodName := ⟨RL, "areRanks", "(LTrellistag;I[I[II)Z"⟩
abbrev cL_areShares : ByteArray := method_6_code
def yL_areShares : MethodName := ⟨RL, "areShares", "(LTrellistag;I[I)Z"⟩
abbrev cL_law : ByteArray := code
def yL_law : MethodName := ⟨RL, "law", "([I)Z"⟩
