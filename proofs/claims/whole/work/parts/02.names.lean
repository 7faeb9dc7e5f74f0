def RX0 : String := "LaterJury$Done"
def TX0 : u_T := fun k => match k with
  | 0 => ("LaterJury$Done", "size", "I", false)
  | 1 => ("LaterJury$Done", "year", "[I", true)
  | _ => ("LaterJury$Done", "kind", "[I", true)
def tyX0 : Nat → FieldType := fun k => match k with
  | 0 => .int
  | 1 => .array .int
  | _ => .array .int
abbrev wsX00 : List Cond := u_ws RX0 TX0 3
theorem nmX0 : ∀ a, a < 3 → ∀ b, b < 3 → a ≠ b → (TX0 a).2.1 ≠ (TX0 b).2.1 := by decide +kernel
theorem tyX0_ok : ∀ k, k < 3 → parseFieldDescriptor (TX0 k).2.2.1 = some (tyX0 k) := by decide +kernel
abbrev cX0_init : ByteArray := prog_2_method_1_code
def yX0_init : MethodName := ⟨RX0, "<init>", "()V"⟩
abbrev cX0_append : ByteArray := prog_2_method_2_code
def yX0_append : MethodName := ⟨RX0, "append", "(II)V"⟩
abbrev cX0_removeAt : ByteArray := prog_2_method_3_code
def yX0_removeAt : MethodName := ⟨RX0, "removeAt", "(I)V"⟩
abbrev cX0_copyFrom : ByteArray := prog_2_method_4_code
def yX0_copyFrom : MethodName := ⟨RX0, "copyFrom", "(LLaterJury$Done;)V"⟩
def RX1 : String := "LaterJury$Helper"
def TX1 : u_T := fun k => match k with
  | 0 => ("LaterJury$Helper", "known", "[Z", true)
  | 1 => ("LaterJury$Helper", "howMany", "[I", true)
  | 2 => ("LaterJury$Helper", "first", "[I", true)
  | 3 => ("LaterJury$Helper", "second", "[I", true)
  | 4 => ("LaterJury$Helper", "yearAheadOfFirst", "[I", true)
  | 5 => ("LaterJury$Helper", "yearAheadOfSecond", "[I", true)
  | 6 => ("LaterJury$Helper", "reachedAhead", "[I", true)
  | _ => ("LaterJury$Helper", "reachedByFirst", "[I", true)
def tyX1 : Nat → FieldType := fun k => match k with
  | 0 => .array .boolean
  | 1 => .array .int
  | 2 => .array .int
  | 3 => .array .int
  | 4 => .array .int
  | 5 => .array .int
  | 6 => .array .int
  | _ => .array .int
abbrev wsX10 : List Cond := u_ws RX1 TX1 8
theorem nmX1 : ∀ a, a < 8 → ∀ b, b < 8 → a ≠ b → (TX1 a).2.1 ≠ (TX1 b).2.1 := by decide +kernel
theorem tyX1_ok : ∀ k, k < 8 → parseFieldDescriptor (TX1 k).2.2.1 = some (tyX1 k) := by decide +kernel
abbrev cX1_init : ByteArray := prog_3_method_1_code
def yX1_init : MethodName := ⟨RX1, "<init>", "()V"⟩
abbrev cX1_forgetAnswers : ByteArray := prog_3_method_2_code
def yX1_forgetAnswers : MethodName := ⟨RX1, "forgetAnswers", "()V"⟩
abbrev cX1_search : ByteArray := prog_3_method_3_code
def yX1_search : MethodName := ⟨RX1, "search", "(LLaterJury$Lives;I)V"⟩
abbrev cX1_answer : ByteArray := prog_3_method_4_code
def yX1_answer : MethodName := ⟨RX1, "answer", "(IIII)V"⟩
abbrev cX1_changesSomebody : ByteArray := prog_3_method_5_code
def yX1_changesSomebody : MethodName := ⟨RX1, "changesSomebody", "(LLaterJury$Told;II)Z"⟩
abbrev cX1_code : ByteArray := prog_3_method_6_code
def yX1_code : MethodName := ⟨RX1, "code", "(II)I"⟩
abbrev cX1_searchOne : ByteArray := prog_3_method_7_code
def yX1_searchOne : MethodName := ⟨RX1, "searchOne", "(LLaterJury$Lives;I)Z"⟩
abbrev cX1_searchTwo : ByteArray := prog_3_method_8_code
def yX1_searchTwo : MethodName := ⟨RX1, "searchTwo", "(LLaterJury$Lives;I)V"⟩
abbrev cX1_searchSecond : ByteArray := prog_3_method_9_code
def yX1_searchSecond : MethodName := ⟨RX1, "searchSecond", "(LLaterJury$Lives;III)Z"⟩
def RX2 : String := "LaterJury$History"
def TX2 : u_T := fun k => match k with
  | 0 => ("LaterJury$History", "now", "LLaterJury$Done;", true)
  | 1 => ("LaterJury$History", "past", "[LLaterJury$Done;", true)
  | _ => ("LaterJury$History", "known", "I", false)
def tyX2 : Nat → FieldType := fun k => match k with
  | 0 => .object "LaterJury$Done"
  | 1 => .array (.object "LaterJury$Done")
  | _ => .int
abbrev wsX20 : List Cond := u_ws RX2 TX2 3
theorem nmX2 : ∀ a, a < 3 → ∀ b, b < 3 → a ≠ b → (TX2 a).2.1 ≠ (TX2 b).2.1 := by decide +kernel
theorem tyX2_ok : ∀ k, k < 3 → parseFieldDescriptor (TX2 k).2.2.1 = some (tyX2 k) := by decide +kernel
abbrev cX2_init : ByteArray := prog_4_method_1_code
def yX2_init : MethodName := ⟨RX2, "<init>", "()V"⟩
abbrev cX2_reset : ByteArray := prog_4_method_2_code
def yX2_reset : MethodName := ⟨RX2, "reset", "()V"⟩
abbrev cX2_remember : ByteArray := prog_4_method_3_code
def yX2_remember : MethodName := ⟨RX2, "remember", "()V"⟩
abbrev cX2_loseOldest : ByteArray := prog_4_method_4_code
def yX2_loseOldest : MethodName := ⟨RX2, "loseOldest", "()V"⟩
abbrev cX2_goBack : ByteArray := prog_4_method_5_code
def yX2_goBack : MethodName := ⟨RX2, "goBack", "()V"⟩
abbrev cX2_copyFrom : ByteArray := prog_4_method_6_code
def yX2_copyFrom : MethodName := ⟨RX2, "copyFrom", "(LLaterJury$History;)V"⟩
def RX3 : String := "LaterJury$Lives"
def TX3 : u_T := fun k => match k with
  | 0 => ("LaterJury$Lives", "told", "LLaterJury$Told;", false)
  | 1 => ("LaterJury$Lives", "begin", "I", false)
  | 2 => ("LaterJury$Lives", "quorum", "I", false)
  | 3 => ("LaterJury$Lives", "yearOn", "[I", true)
  | 4 => ("LaterJury$Lives", "behindDeeds", "[I", true)
  | 5 => ("LaterJury$Lives", "self", "[I", true)
  | 6 => ("LaterJury$Lives", "verdict", "[I", true)
  | 7 => ("LaterJury$Lives", "stepOfRow", "[I", true)
  | _ => ("LaterJury$Lives", "jury", "[I", true)
def tyX3 : Nat → FieldType := fun k => match k with
  | 0 => .object "LaterJury$Told"
  | 1 => .int
  | 2 => .int
  | 3 => .array .int
  | 4 => .array .int
  | 5 => .array .int
  | 6 => .array .int
  | 7 => .array .int
  | _ => .array .int
abbrev wsX30 : List Cond := u_ws RX3 TX3 9
theorem nmX3 : ∀ a, a < 9 → ∀ b, b < 9 → a ≠ b → (TX3 a).2.1 ≠ (TX3 b).2.1 := by decide +kernel
theorem tyX3_ok : ∀ k, k < 9 → parseFieldDescriptor (TX3 k).2.2.1 = some (tyX3 k) := by decide +kernel
abbrev cX3_init : ByteArray := prog_5_method_1_code
def yX3_init : MethodName := ⟨RX3, "<init>", "()V"⟩
abbrev cX3_prepare : ByteArray := prog_5_method_2_code
def yX3_prepare : MethodName := ⟨RX3, "prepare", "(LLaterJury$Told;LLaterJury$Done;)V"⟩
abbrev cX3_prepareState : ByteArray := prog_5_method_3_code
def yX3_prepareState : MethodName := ⟨RX3, "prepareState", "(I)V"⟩
abbrev cX3_addDeed : ByteArray := prog_5_method_4_code
def yX3_addDeed : MethodName := ⟨RX3, "addDeed", "(II)V"⟩
abbrev cX3_rows : ByteArray := prog_5_method_5_code
def yX3_rows : MethodName := ⟨RX3, "rows", "()I"⟩
abbrev cX3_howMany : ByteArray := prog_5_method_6_code
def yX3_howMany : MethodName := ⟨RX3, "howMany", "()I"⟩
abbrev cX3_find : ByteArray := prog_5_method_7_code
def yX3_find : MethodName := ⟨RX3, "find", "(I)Z"⟩
abbrev cX3_isLife : ByteArray := prog_5_method_8_code
def yX3_isLife : MethodName := ⟨RX3, "isLife", "(I)Z"⟩
abbrev cX3_giveVerdicts : ByteArray := prog_5_method_9_code
def yX3_giveVerdicts : MethodName := ⟨RX3, "giveVerdicts", "(I)V"⟩
abbrev cX3_holds : ByteArray := prog_5_method_10_code
def yX3_holds : MethodName := ⟨RX3, "holds", "()Z"⟩
abbrev cX3_live : ByteArray := prog_5_method_11_code
def yX3_live : MethodName := ⟨RX3, "live", "()V"⟩
abbrev cX3_juryWord : ByteArray := prog_5_method_12_code
def yX3_juryWord : MethodName := ⟨RX3, "juryWord", "(I)I"⟩
abbrev cX3_sureVerdict : ByteArray := prog_5_method_13_code
def yX3_sureVerdict : MethodName := ⟨RX3, "sureVerdict", "(I)I"⟩
abbrev cX3_surelyAcquitted : ByteArray := prog_5_method_14_code
def yX3_surelyAcquitted : MethodName := ⟨RX3, "surelyAcquitted", "(I)Z"⟩
abbrev cX3_someLife : ByteArray := prog_5_method_15_code
def yX3_someLife : MethodName := ⟨RX3, "someLife", "(IZ)Z"⟩
abbrev cX3_ringPart : ByteArray := prog_5_method_16_code
def yX3_ringPart : MethodName := ⟨RX3, "ringPart", "(I)I"⟩
abbrev cX3_rowOfWords : ByteArray := prog_5_method_17_code
def yX3_rowOfWords : MethodName := ⟨RX3, "rowOfWords", "(I)I"⟩
abbrev cX3_seatJury : ByteArray := prog_5_method_18_code
def yX3_seatJury : MethodName := ⟨RX3, "seatJury", "(I)I"⟩
abbrev cX3_leanBehindStrikes : ByteArray := prog_5_method_19_code
def yX3_leanBehindStrikes : MethodName := ⟨RX3, "leanBehindStrikes", "(II)I"⟩
abbrev cX3_reach : ByteArray := prog_5_method_20_code
def yX3_reach : MethodName := ⟨RX3, "reach", "([I)V"⟩
abbrev cX3_reachNext : ByteArray := prog_5_method_21_code
def yX3_reachNext : MethodName := ⟨RX3, "reachNext", "(III)I"⟩
abbrev cX3_saveYear : ByteArray := prog_5_method_22_code
def yX3_saveYear : MethodName := ⟨RX3, "saveYear", "(I[I)V"⟩
abbrev cX3_restoreYear : ByteArray := prog_5_method_23_code
def yX3_restoreYear : MethodName := ⟨RX3, "restoreYear", "(I[I)V"⟩
def RX4 : String := "LaterJury$Reader"
def TX4 : u_T := fun k => match k with
  | 0 => ("LaterJury$Reader", "bytes", "[I", false)
  | 1 => ("LaterJury$Reader", "length", "I", false)
  | 2 => ("LaterJury$Reader", "place", "I", false)
  | 3 => ("LaterJury$Reader", "token", "I", false)
  | 4 => ("LaterJury$Reader", "tokenPlace", "I", false)
  | 5 => ("LaterJury$Reader", "tokenValue", "I", false)
  | 6 => ("LaterJury$Reader", "yearsTold", "Z", false)
  | 7 => ("LaterJury$Reader", "beginTold", "Z", false)
  | 8 => ("LaterJury$Reader", "quorumTold", "Z", false)
  | _ => ("LaterJury$Reader", "numbers", "[I", true)
def tyX4 : Nat → FieldType := fun k => match k with
  | 0 => .array .int
  | 1 => .int
  | 2 => .int
  | 3 => .int
  | 4 => .int
  | 5 => .int
  | 6 => .boolean
  | 7 => .boolean
  | 8 => .boolean
  | _ => .array .int
abbrev wsX40 : List Cond := u_ws RX4 TX4 10
theorem nmX4 : ∀ a, a < 10 → ∀ b, b < 10 → a ≠ b → (TX4 a).2.1 ≠ (TX4 b).2.1 := by decide +kernel
theorem tyX4_ok : ∀ k, k < 10 → parseFieldDescriptor (TX4 k).2.2.1 = some (tyX4 k) := by decide +kernel
abbrev cX4_init : ByteArray := prog_6_method_1_code
def yX4_init : MethodName := ⟨RX4, "<init>", "()V"⟩
abbrev cX4_readAll : ByteArray := prog_6_method_2_code
def yX4_readAll : MethodName := ⟨RX4, "readAll", "([IILLaterJury$Told;)I"⟩
abbrev cX4_readItem : ByteArray := prog_6_method_3_code
def yX4_readItem : MethodName := ⟨RX4, "readItem", "(LLaterJury$Told;)Z"⟩
abbrev cX4_mayBegin : ByteArray := prog_6_method_4_code
def yX4_mayBegin : MethodName := ⟨RX4, "mayBegin", "(ILLaterJury$Told;)Z"⟩
abbrev cX4_numbersOf : ByteArray := prog_6_method_5_code
def yX4_numbersOf : MethodName := ⟨RX4, "numbersOf", "(I)I"⟩
abbrev cX4_least : ByteArray := prog_6_method_6_code
def yX4_least : MethodName := ⟨RX4, "least", "(IILLaterJury$Told;)I"⟩
abbrev cX4_leastOfTrial : ByteArray := prog_6_method_7_code
def yX4_leastOfTrial : MethodName := ⟨RX4, "leastOfTrial", "(ILLaterJury$Told;)I"⟩
abbrev cX4_most : ByteArray := prog_6_method_8_code
def yX4_most : MethodName := ⟨RX4, "most", "(IILLaterJury$Told;)I"⟩
abbrev cX4_take : ByteArray := prog_6_method_9_code
def yX4_take : MethodName := ⟨RX4, "take", "(ILLaterJury$Told;)V"⟩
abbrev cX4_takeState : ByteArray := prog_6_method_10_code
def yX4_takeState : MethodName := ⟨RX4, "takeState", "(LLaterJury$Told;)V"⟩
abbrev cX4_takeTrial : ByteArray := prog_6_method_11_code
def yX4_takeTrial : MethodName := ⟨RX4, "takeTrial", "(LLaterJury$Told;)V"⟩
abbrev cX4_takeDeed : ByteArray := prog_6_method_12_code
def yX4_takeDeed : MethodName := ⟨RX4, "takeDeed", "(LLaterJury$Told;)V"⟩
abbrev cX4_nextToken : ByteArray := prog_6_method_13_code
def yX4_nextToken : MethodName := ⟨RX4, "nextToken", "()V"⟩
abbrev cX4_readLetters : ByteArray := prog_6_method_14_code
def yX4_readLetters : MethodName := ⟨RX4, "readLetters", "()V"⟩
abbrev cX4_readNumber : ByteArray := prog_6_method_15_code
def yX4_readNumber : MethodName := ⟨RX4, "readNumber", "()V"⟩
abbrev cX4_isLetter : ByteArray := prog_6_method_16_code
def yX4_isLetter : MethodName := ⟨RX4, "isLetter", "(I)Z"⟩
abbrev cX4_isDigit : ByteArray := prog_6_method_17_code
def yX4_isDigit : MethodName := ⟨RX4, "isDigit", "(I)Z"⟩
def RX5 : String := "LaterJury$Told"
def TX5 : u_T := fun k => match k with
  | 0 => ("LaterJury$Told", "years", "I", false)
  | 1 => ("LaterJury$Told", "states", "I", false)
  | 2 => ("LaterJury$Told", "begin", "I", false)
  | 3 => ("LaterJury$Told", "trials", "I", false)
  | 4 => ("LaterJury$Told", "deeds", "I", false)
  | 5 => ("LaterJury$Told", "quorum", "I", false)
  | 6 => ("LaterJury$Told", "lean", "[I", true)
  | 7 => ("LaterJury$Told", "dead", "[I", true)
  | 8 => ("LaterJury$Told", "becomes", "[I", true)
  | 9 => ("LaterJury$Told", "trialYear", "[I", true)
  | 10 => ("LaterJury$Told", "juryFrom", "[I", true)
  | 11 => ("LaterJury$Told", "juryTo", "[I", true)
  | 12 => ("LaterJury$Told", "deedFrom", "[I", true)
  | _ => ("LaterJury$Told", "deedTo", "[I", true)
def tyX5 : Nat → FieldType := fun k => match k with
  | 0 => .int
  | 1 => .int
  | 2 => .int
  | 3 => .int
  | 4 => .int
  | 5 => .int
  | 6 => .array .int
  | 7 => .array .int
  | 8 => .array .int
  | 9 => .array .int
  | 10 => .array .int
  | 11 => .array .int
  | 12 => .array .int
  | _ => .array .int
abbrev wsX50 : List Cond := u_ws RX5 TX5 14
theorem nmX5 : ∀ a, a < 14 → ∀ b, b < 14 → a ≠ b → (TX5 a).2.1 ≠ (TX5 b).2.1 := by decide +kernel
theorem tyX5_ok : ∀ k, k < 14 → parseFieldDescriptor (TX5 k).2.2.1 = some (tyX5 k) := by decide +kernel
abbrev cX5_init : ByteArray := prog_7_method_1_code
def yX5_init : MethodName := ⟨RX5, "<init>", "()V"⟩
abbrev cX5_reset : ByteArray := prog_7_method_2_code
def yX5_reset : MethodName := ⟨RX5, "reset", "()V"⟩
abbrev cX5_beginning : ByteArray := prog_7_method_3_code
def yX5_beginning : MethodName := ⟨RX5, "beginning", "()I"⟩
def RX6 : String := "LaterJury"
def TX6 : u_T := fun k => match k with
  | 0 => ("LaterJury", "text", "[I", true)
  | 1 => ("LaterJury", "textLength", "I", false)
  | 2 => ("LaterJury", "told", "LLaterJury$Told;", false)
  | 3 => ("LaterJury", "draft", "LLaterJury$Told;", false)
  | 4 => ("LaterJury", "reader", "LLaterJury$Reader;", true)
  | 5 => ("LaterJury", "lives", "LLaterJury$Lives;", true)
  | 6 => ("LaterJury", "helper", "LLaterJury$Helper;", true)
  | 7 => ("LaterJury", "history", "LLaterJury$History;", true)
  | 8 => ("LaterJury", "images", "[LLaterJury$History;", true)
  | 9 => ("LaterJury", "kept", "[Z", true)
  | 10 => ("LaterJury", "seenYear", "[I", true)
  | 11 => ("LaterJury", "seenState", "[I", true)
  | 12 => ("LaterJury", "seen", "I", false)
  | _ => ("LaterJury", "traced", "J", false)
def tyX6 : Nat → FieldType := fun k => match k with
  | 0 => .array .int
  | 1 => .int
  | 2 => .object "LaterJury$Told"
  | 3 => .object "LaterJury$Told"
  | 4 => .object "LaterJury$Reader"
  | 5 => .object "LaterJury$Lives"
  | 6 => .object "LaterJury$Helper"
  | 7 => .object "LaterJury$History"
  | 8 => .array (.object "LaterJury$History")
  | 9 => .array .boolean
  | 10 => .array .int
  | 11 => .array .int
  | 12 => .int
  | _ => .long
abbrev wsX60 : List Cond := u_ws RX6 TX6 14
theorem nmX6 : ∀ a, a < 14 → ∀ b, b < 14 → a ≠ b → (TX6 a).2.1 ≠ (TX6 b).2.1 := by decide +kernel
theorem tyX6_ok : ∀ k, k < 14 → parseFieldDescriptor (TX6 k).2.2.1 = some (tyX6 k) := by decide +kernel
abbrev cX6_init : ByteArray := prog_1_method_1_code
def yX6_init : MethodName := ⟨RX6, "<init>", "()V"⟩
abbrev cX6_type : ByteArray := prog_1_method_2_code
def yX6_type : MethodName := ⟨RX6, "type", "(I)I"⟩
abbrev cX6_clear : ByteArray := prog_1_method_3_code
def yX6_clear : MethodName := ⟨RX6, "clear", "()I"⟩
abbrev cX6_court : ByteArray := prog_1_method_4_code
def yX6_court : MethodName := ⟨RX6, "court", "()I"⟩
abbrev cX6_state : ByteArray := prog_1_method_5_code
def yX6_state : MethodName := ⟨RX6, "state", "(II)I"⟩
abbrev cX6_trial : ByteArray := prog_1_method_6_code
def yX6_trial : MethodName := ⟨RX6, "trial", "(II)I"⟩
abbrev cX6_deed : ByteArray := prog_1_method_7_code
def yX6_deed : MethodName := ⟨RX6, "deed", "(II)I"⟩
abbrev cX6_does : ByteArray := prog_1_method_8_code
def yX6_does : MethodName := ⟨RX6, "does", "(II)I"⟩
abbrev cX6_takes : ByteArray := prog_1_method_9_code
def yX6_takes : MethodName := ⟨RX6, "takes", "(I)I"⟩
abbrev cX6_done : ByteArray := prog_1_method_10_code
def yX6_done : MethodName := ⟨RX6, "done", "(II)I"⟩
abbrev cX6_undo : ByteArray := prog_1_method_11_code
def yX6_undo : MethodName := ⟨RX6, "undo", "()I"⟩
abbrev cX6_lives : ByteArray := prog_1_method_12_code
def yX6_lives : MethodName := ⟨RX6, "lives", "()I"⟩
abbrev cX6_verdict : ByteArray := prog_1_method_13_code
def yX6_verdict : MethodName := ⟨RX6, "verdict", "(II)I"⟩
abbrev cX6_self : ByteArray := prog_1_method_14_code
def yX6_self : MethodName := ⟨RX6, "self", "(II)I"⟩
abbrev cX6_sure : ByteArray := prog_1_method_15_code
def yX6_sure : MethodName := ⟨RX6, "sure", "(I)I"⟩
abbrev cX6_who : ByteArray := prog_1_method_16_code
def yX6_who : MethodName := ⟨RX6, "who", "(I)I"⟩
abbrev cX6_ring : ByteArray := prog_1_method_17_code
def yX6_ring : MethodName := ⟨RX6, "ring", "(I)I"⟩
abbrev cX6_help : ByteArray := prog_1_method_18_code
def yX6_help : MethodName := ⟨RX6, "help", "(II)I"⟩
abbrev cX6_strikes : ByteArray := prog_1_method_19_code
def yX6_strikes : MethodName := ⟨RX6, "strikes", "(III)I"⟩
abbrev cX6_innocent : ByteArray := prog_1_method_20_code
def yX6_innocent : MethodName := ⟨RX6, "innocent", "(I)I"⟩
abbrev cX6_odds : ByteArray := prog_1_method_21_code
def yX6_odds : MethodName := ⟨RX6, "odds", "(II)I"⟩
abbrev cX6_saw : ByteArray := prog_1_method_22_code
def yX6_saw : MethodName := ⟨RX6, "saw", "(II)I"⟩
abbrev cX6_forget : ByteArray := prog_1_method_23_code
def yX6_forget : MethodName := ⟨RX6, "forget", "()I"⟩
abbrev cX6_fits : ByteArray := prog_1_method_24_code
def yX6_fits : MethodName := ⟨RX6, "fits", "()I"⟩
abbrev cX6_quorum : ByteArray := prog_1_method_25_code
def yX6_quorum : MethodName := ⟨RX6, "quorum", "(I)I"⟩
abbrev cX6_mark : ByteArray := prog_1_method_26_code
def yX6_mark : MethodName := ⟨RX6, "mark", "(II)I"⟩
abbrev cX6_keep : ByteArray := prog_1_method_27_code
def yX6_keep : MethodName := ⟨RX6, "keep", "(I)I"⟩
abbrev cX6_back : ByteArray := prog_1_method_28_code
def yX6_back : MethodName := ⟨RX6, "back", "(I)I"⟩
abbrev cX6_count : ByteArray := prog_1_method_29_code
def yX6_count : MethodName := ⟨RX6, "count", "(I)I"⟩
abbrev cX6_trace : ByteArray := prog_1_method_30_code
def yX6_trace : MethodName := ⟨RX6, "trace", "()J"⟩
abbrev cX6_isYear : ByteArray := prog_1_method_31_code
def yX6_isYear : MethodName := ⟨RX6, "isYear", "(I)Z"⟩
abbrev cX6_isState : ByteArray := prog_1_method_32_code
def yX6_isState : MethodName := ⟨RX6, "isState", "(I)Z"⟩
abbrev cX6_isTrial : ByteArray := prog_1_method_33_code
def yX6_isTrial : MethodName := ⟨RX6, "isTrial", "(I)Z"⟩
abbrev cX6_isDeed : ByteArray := prog_1_method_34_code
def yX6_isDeed : MethodName := ⟨RX6, "isDeed", "(I)Z"⟩
abbrev cX6_findLife : ByteArray := prog_1_method_35_code
def yX6_findLife : MethodName := ⟨RX6, "findLife", "(I)Z"⟩
abbrev cX6_innocentBits : ByteArray := prog_1_method_36_code
def yX6_innocentBits : MethodName := ⟨RX6, "innocentBits", "(I)I"⟩
abbrev cX6_someLifeFits : ByteArray := prog_1_method_37_code
def yX6_someLifeFits : MethodName := ⟨RX6, "someLifeFits", "()Z"⟩
abbrev cX6_allSeenIsSo : ByteArray := prog_1_method_38_code
def yX6_allSeenIsSo : MethodName := ⟨RX6, "allSeenIsSo", "()Z"⟩
abbrev cX6_commonDivisor : ByteArray := prog_1_method_39_code
def yX6_commonDivisor : MethodName := ⟨RX6, "commonDivisor", "(II)I"⟩
abbrev cX6_markOfSelf : ByteArray := prog_1_method_40_code
def yX6_markOfSelf : MethodName := ⟨RX6, "markOfSelf", "(I)I"⟩
abbrev cX6_markOfChild : ByteArray := prog_1_method_41_code
def yX6_markOfChild : MethodName := ⟨RX6, "markOfChild", "(I)I"⟩
abbrev cX6_markOfElder : ByteArray := prog_1_method_42_code
def yX6_markOfElder : MethodName := ⟨RX6, "markOfElder", "(I)I"⟩
abbrev cX6_markOfBitter : ByteArray := prog_1_method_43_code
def yX6_markOfBitter : MethodName := ⟨RX6, "markOfBitter", "(I)I"⟩
abbrev cX6_markOfLenient : ByteArray := prog_1_method_44_code
def yX6_markOfLenient : MethodName := ⟨RX6, "markOfLenient", "(I)I"⟩
abbrev cX6_markOfGhost : ByteArray := prog_1_method_45_code
def yX6_markOfGhost : MethodName := ⟨RX6, "markOfGhost", "(I)I"⟩
def RX7 : String := "LaterJuryModel"
def TX7 : u_T := fun k => match k with
  | 0 => ("LaterJuryModel", "text", "[I", true)
  | 1 => ("LaterJuryModel", "size", "I", false)
  | 2 => ("LaterJuryModel", "at", "I", false)
  | 3 => ("LaterJuryModel", "begin", "I", false)
  | 4 => ("LaterJuryModel", "token", "I", false)
  | 5 => ("LaterJuryModel", "told", "I", false)
  | 6 => ("LaterJuryModel", "read", "[I", true)
  | 7 => ("LaterJuryModel", "life", "[I", true)
  | 8 => ("LaterJuryModel", "dones", "I", false)
  | 9 => ("LaterJuryModel", "done", "[I", true)
  | 10 => ("LaterJuryModel", "undos", "I", false)
  | 11 => ("LaterJuryModel", "undone", "[I", true)
  | 12 => ("LaterJuryModel", "selves", "[I", true)
  | 13 => ("LaterJuryModel", "when", "[I", true)
  | 14 => ("LaterJuryModel", "jury", "[I", true)
  | 15 => ("LaterJuryModel", "seens", "I", false)
  | 16 => ("LaterJuryModel", "years", "[I", true)
  | 17 => ("LaterJuryModel", "states", "[I", true)
  | 18 => ("LaterJuryModel", "trace", "J", false)
  | _ => ("LaterJuryModel", "kept", "[I", true)
def tyX7 : Nat → FieldType := fun k => match k with
  | 0 => .array .int
  | 1 => .int
  | 2 => .int
  | 3 => .int
  | 4 => .int
  | 5 => .int
  | 6 => .array .int
  | 7 => .array .int
  | 8 => .int
  | 9 => .array .int
  | 10 => .int
  | 11 => .array .int
  | 12 => .array .int
  | 13 => .array .int
  | 14 => .array .int
  | 15 => .int
  | 16 => .array .int
  | 17 => .array .int
  | 18 => .long
  | _ => .array .int
abbrev wsX70 : List Cond := u_ws RX7 TX7 20
theorem nmX7 : ∀ a, a < 20 → ∀ b, b < 20 → a ≠ b → (TX7 a).2.1 ≠ (TX7 b).2.1 := by decide +kernel
theorem tyX7_ok : ∀ k, k < 20 → parseFieldDescriptor (TX7 k).2.2.1 = some (tyX7 k) := by decide +kernel
abbrev cX7_in : ByteArray := prog_9_method_2_code
def yX7_in : MethodName := ⟨RX7, "in", "(JJJ)Z"⟩
abbrev cX7_init : ByteArray := prog_9_method_3_code
def yX7_init : MethodName := ⟨RX7, "<init>", "()V"⟩
abbrev cX7_type : ByteArray := prog_9_method_4_code
def yX7_type : MethodName := ⟨RX7, "type", "(I)I"⟩
abbrev cX7_clear : ByteArray := prog_9_method_5_code
def yX7_clear : MethodName := ⟨RX7, "clear", "()I"⟩
abbrev cX7_isLetter : ByteArray := prog_9_method_6_code
def yX7_isLetter : MethodName := ⟨RX7, "isLetter", "(I)Z"⟩
abbrev cX7_isFigure : ByteArray := prog_9_method_7_code
def yX7_isFigure : MethodName := ⟨RX7, "isFigure", "(I)Z"⟩
abbrev cX7_readLetters : ByteArray := prog_9_method_8_code
def yX7_readLetters : MethodName := ⟨RX7, "readLetters", "()V"⟩
abbrev cX7_readNumber : ByteArray := prog_9_method_9_code
def yX7_readNumber : MethodName := ⟨RX7, "readNumber", "()V"⟩
abbrev cX7_reads : ByteArray := prog_9_method_10_code
def yX7_reads : MethodName := ⟨RX7, "reads", "()V"⟩
abbrev cX7_number : ByteArray := prog_9_method_11_code
def yX7_number : MethodName := ⟨RX7, "number", "(II)Z"⟩
abbrev cX7_ends : ByteArray := prog_9_method_12_code
def yX7_ends : MethodName := ⟨RX7, "ends", "()Z"⟩
abbrev cX7_plain : ByteArray := prog_9_method_13_code
def yX7_plain : MethodName := ⟨RX7, "plain", "()V"⟩
abbrev cX7_once : ByteArray := prog_9_method_14_code
def yX7_once : MethodName := ⟨RX7, "once", "(IIII)Z"⟩
abbrev cX7_readState : ByteArray := prog_9_method_15_code
def yX7_readState : MethodName := ⟨RX7, "readState", "()Z"⟩
abbrev cX7_readTrial : ByteArray := prog_9_method_16_code
def yX7_readTrial : MethodName := ⟨RX7, "readTrial", "()Z"⟩
abbrev cX7_readDeed : ByteArray := prog_9_method_17_code
def yX7_readDeed : MethodName := ⟨RX7, "readDeed", "()Z"⟩
abbrev cX7_readItem : ByteArray := prog_9_method_18_code
def yX7_readItem : MethodName := ⟨RX7, "readItem", "()Z"⟩
abbrev cX7_court : ByteArray := prog_9_method_19_code
def yX7_court : MethodName := ⟨RX7, "court", "()I"⟩
abbrev cX7_takesIt : ByteArray := prog_9_method_20_code
def yX7_takesIt : MethodName := ⟨RX7, "takesIt", "()V"⟩
abbrev cX7_isState : ByteArray := prog_9_method_21_code
def yX7_isState : MethodName := ⟨RX7, "isState", "(I)Z"⟩
abbrev cX7_isTrial : ByteArray := prog_9_method_22_code
def yX7_isTrial : MethodName := ⟨RX7, "isTrial", "(I)Z"⟩
abbrev cX7_isYear : ByteArray := prog_9_method_23_code
def yX7_isYear : MethodName := ⟨RX7, "isYear", "(I)Z"⟩
abbrev cX7_of : ByteArray := prog_9_method_24_code
def yX7_of : MethodName := ⟨RX7, "of", "(II)I"⟩
abbrev cX7_lean : ByteArray := prog_9_method_25_code
def yX7_lean : MethodName := ⟨RX7, "lean", "(I)I"⟩
abbrev cX7_state : ByteArray := prog_9_method_26_code
def yX7_state : MethodName := ⟨RX7, "state", "(II)I"⟩
abbrev cX7_trial : ByteArray := prog_9_method_27_code
def yX7_trial : MethodName := ⟨RX7, "trial", "(II)I"⟩
abbrev cX7_deed : ByteArray := prog_9_method_28_code
def yX7_deed : MethodName := ⟨RX7, "deed", "(II)I"⟩
abbrev cX7_notes : ByteArray := prog_9_method_29_code
def yX7_notes : MethodName := ⟨RX7, "notes", "()V"⟩
abbrev cX7_does : ByteArray := prog_9_method_30_code
def yX7_does : MethodName := ⟨RX7, "does", "(II)I"⟩
abbrev cX7_adds : ByteArray := prog_9_method_31_code
def yX7_adds : MethodName := ⟨RX7, "adds", "(II)V"⟩
abbrev cX7_takes : ByteArray := prog_9_method_32_code
def yX7_takes : MethodName := ⟨RX7, "takes", "(I)I"⟩
abbrev cX7_done : ByteArray := prog_9_method_33_code
def yX7_done : MethodName := ⟨RX7, "done", "(II)I"⟩
abbrev cX7_undo : ByteArray := prog_9_method_34_code
def yX7_undo : MethodName := ⟨RX7, "undo", "()I"⟩
abbrev cX7_beginning : ByteArray := prog_9_method_35_code
def yX7_beginning : MethodName := ⟨RX7, "beginning", "()I"⟩
abbrev cX7_figure : ByteArray := prog_9_method_36_code
def yX7_figure : MethodName := ⟨RX7, "figure", "(III)I"⟩
abbrev cX7_goes : ByteArray := prog_9_method_37_code
def yX7_goes : MethodName := ⟨RX7, "goes", "(II)V"⟩
abbrev cX7_word : ByteArray := prog_9_method_38_code
def yX7_word : MethodName := ⟨RX7, "word", "(II)I"⟩
abbrev cX7_words : ByteArray := prog_9_method_39_code
def yX7_words : MethodName := ⟨RX7, "words", "(I)I"⟩
abbrev cX7_rows : ByteArray := prog_9_method_40_code
def yX7_rows : MethodName := ⟨RX7, "rows", "()I"⟩
abbrev cX7_isLife : ByteArray := prog_9_method_41_code
def yX7_isLife : MethodName := ⟨RX7, "isLife", "(III)Z"⟩
abbrev cX7_livesFrom : ByteArray := prog_9_method_42_code
def yX7_livesFrom : MethodName := ⟨RX7, "livesFrom", "(II)I"⟩
abbrev cX7_lives : ByteArray := prog_9_method_43_code
def yX7_lives : MethodName := ⟨RX7, "lives", "()I"⟩
abbrev cX7_gone : ByteArray := prog_9_method_44_code
def yX7_gone : MethodName := ⟨RX7, "gone", "(I)I"⟩
abbrev cX7_verdict : ByteArray := prog_9_method_45_code
def yX7_verdict : MethodName := ⟨RX7, "verdict", "(II)I"⟩
abbrev cX7_self : ByteArray := prog_9_method_46_code
def yX7_self : MethodName := ⟨RX7, "self", "(II)I"⟩
abbrev cX7_sureFrom : ByteArray := prog_9_method_47_code
def yX7_sureFrom : MethodName := ⟨RX7, "sureFrom", "(II)I"⟩
abbrev cX7_sure : ByteArray := prog_9_method_48_code
def yX7_sure : MethodName := ⟨RX7, "sure", "(I)I"⟩
abbrev cX7_who : ByteArray := prog_9_method_49_code
def yX7_who : MethodName := ⟨RX7, "who", "(I)I"⟩
abbrev cX7_ring : ByteArray := prog_9_method_50_code
def yX7_ring : MethodName := ⟨RX7, "ring", "(I)I"⟩
abbrev cX7_help : ByteArray := prog_9_method_51_code
def yX7_help : MethodName := ⟨RX7, "help", "(II)I"⟩
abbrev cX7_strikes : ByteArray := prog_9_method_52_code
def yX7_strikes : MethodName := ⟨RX7, "strikes", "(III)I"⟩
abbrev cX7_innocent : ByteArray := prog_9_method_53_code
def yX7_innocent : MethodName := ⟨RX7, "innocent", "(I)I"⟩
abbrev cX7_many : ByteArray := prog_9_method_54_code
def yX7_many : MethodName := ⟨RX7, "many", "(I)I"⟩
abbrev cX7_common : ByteArray := prog_9_method_55_code
def yX7_common : MethodName := ⟨RX7, "common", "(II)I"⟩
abbrev cX7_odds : ByteArray := prog_9_method_56_code
def yX7_odds : MethodName := ⟨RX7, "odds", "(II)I"⟩
abbrev cX7_saw : ByteArray := prog_9_method_57_code
def yX7_saw : MethodName := ⟨RX7, "saw", "(II)I"⟩
abbrev cX7_forget : ByteArray := prog_9_method_58_code
def yX7_forget : MethodName := ⟨RX7, "forget", "()I"⟩
abbrev cX7_fits : ByteArray := prog_9_method_59_code
def yX7_fits : MethodName := ⟨RX7, "fits", "()I"⟩
abbrev cX7_quorum : ByteArray := prog_9_method_60_code
def yX7_quorum : MethodName := ⟨RX7, "quorum", "(I)I"⟩
abbrev cX7_mark : ByteArray := prog_9_method_61_code
def yX7_mark : MethodName := ⟨RX7, "mark", "(II)I"⟩
abbrev cX7_trace : ByteArray := prog_9_method_62_code
def yX7_trace : MethodName := ⟨RX7, "trace", "()J"⟩
abbrev cX7_keep : ByteArray := prog_9_method_63_code
def yX7_keep : MethodName := ⟨RX7, "keep", "(I)I"⟩
abbrev cX7_back : ByteArray := prog_9_method_64_code
def yX7_back : MethodName := ⟨RX7, "back", "(I)I"⟩
abbrev cX7_count : ByteArray := prog_9_method_65_code
def yX7_count : MethodName := ⟨RX7, "count", "(I)I"⟩
def RJ6 : String := "java/lang/Integer"
def TJ6 : u_T := fun k => match k with
  | _ => ("", "", "", false)
def tyJ6 : Nat → FieldType := fun k => match k with
  | _ => .int
abbrev wsJ60 : List Cond := u_ws RJ6 TJ6 0
theorem nmJ6 : ∀ a, a < 0 → ∀ b, b < 0 → a ≠ b → (TJ6 a).2.1 ≠ (TJ6 b).2.1 := by decide +kernel
theorem tyJ6_ok : ∀ k, k < 0 → parseFieldDescriptor (TJ6 k).2.2.1 = some (tyJ6 k) := by decide +kernel
abbrev cJ6_bitCount_0f7a4 : ByteArray := prog_10_method_49_code
def yJ6_bitCount_0f7a4 : MethodName := ⟨RJ6, "bitCount", "(I)I"⟩
def RJ9 : String := "java/lang/Math"
def TJ9 : u_T := fun k => match k with
  | _ => ("", "", "", false)
def tyJ9 : Nat → FieldType := fun k => match k with
  | _ => .int
abbrev wsJ90 : List Cond := u_ws RJ9 TJ9 0
theorem nmJ9 : ∀ a, a < 0 → ∀ b, b < 0 → a ≠ b → (TJ9 a).2.1 ≠ (TJ9 b).2.1 := by decide +kernel
theorem tyJ9_ok : ∀ k, k < 0 → parseFieldDescriptor (TJ9 k).2.2.1 = some (tyJ9 k) := by decide +kernel
abbrev cJ9_min_7cf53 : ByteArray := prog_11_method_69_code
def yJ9_min_7cf53 : MethodName := ⟨RJ9, "min", "(II)I"⟩
def RL : String := "LaterJuryLaw"
abbrev cL_law : ByteArray := code
def yL_law : MethodName := ⟨RL, "law", "([I)Z"⟩
abbrev vwCl : List vw_C := [(RX0, TX0, 3), (RX1, TX1, 8), (RX2, TX2, 3), (RX3, TX3, 9), (RX4, TX4, 10), (RX5, TX5, 14), (RX6, TX6, 14), (RX7, TX7, 20)]
theorem dX0_init_0 : decode cX0_init 0 = .ok (.aload_n 0, 1) := by decide +kernel
theorem dX0_init_1 : decode cX0_init 1 = .ok (.invokespecial 3, 3) := by decide +kernel
theorem dX0_init_4 : decode cX0_init 4 = .ok (.aload_n 0, 1) := by decide +kernel
theorem dX0_init_5 : decode cX0_init 5 = .ok (.iconst 0, 1) := by decide +kernel
theorem dX0_init_6 : decode cX0_init 6 = .ok (.putfield 9, 3) := by decide +kernel
theorem dX0_init_9 : decode cX0_init 9 = .ok (.aload_n 0, 1) := by decide +kernel
theorem dX0_init_10 : decode cX0_init 10 = .ok (.bipush 6, 2) := by decide +kernel
theorem dX0_init_12 : decode cX0_init 12 = .ok (.newarray .int, 2) := by decide +kernel
theorem dX0_init_14 : decode cX0_init 14 = .ok (.putfield 15, 3) := by decide +kernel
theorem dX0_init_17 : decode cX0_init 17 = .ok (.aload_n 0, 1) := by decide +kernel
theorem dX0_init_18 : decode cX0_init 18 = .ok (.bipush 6, 2) := by decide +kernel
theorem dX0_init_20 : decode cX0_init 20 = .ok (.newarray .int, 2) := by decide +kernel
theorem dX0_init_22 : decode cX0_init 22 = .ok (.putfield 19, 3) := by decide +kernel
theorem dX0_init_25 : decode cX0_init 25 = .ok (.return_, 1) := by decide +kernel
theorem dX0_append_0 : decode cX0_append 0 = .ok (.aload_n 0, 1) := by decide +kernel
theorem dX0_append_1 : decode cX0_append 1 = .ok (.getfield 9, 3) := by decide +kernel
theorem dX0_append_4 : decode cX0_append 4 = .ok (.bipush 6, 2) := by decide +kernel
theorem dX0_append_6 : decode cX0_append 6 = .ok (.if_icmp .lt 4, 3) := by decide +kernel
theorem dX0_append_9 : decode cX0_append 9 = .ok (.return_, 1) := by decide +kernel
theorem dX0_append_10 : decode cX0_append 10 = .ok (.aload_n 0, 1) := by decide +kernel
theorem dX0_append_11 : decode cX0_append 11 = .ok (.getfield 15, 3) := by decide +kernel
theorem dX0_append_14 : decode cX0_append 14 = .ok (.aload_n 0, 1) := by decide +kernel
theorem dX0_append_15 : decode cX0_append 15 = .ok (.getfield 9, 3) := by decide +kernel
theorem dX0_append_18 : decode cX0_append 18 = .ok (.iload_n 1, 1) := by decide +kernel
theorem dX0_append_19 : decode cX0_append 19 = .ok (.iastore, 1) := by decide +kernel
theorem dX0_append_20 : decode cX0_append 20 = .ok (.aload_n 0, 1) := by decide +kernel
theorem dX0_append_21 : decode cX0_append 21 = .ok (.getfield 19, 3) := by decide +kernel
theorem dX0_append_24 : decode cX0_append 24 = .ok (.aload_n 0, 1) := by decide +kernel
theorem dX0_append_25 : decode cX0_append 25 = .ok (.getfield 9, 3) := by decide +kernel
theorem dX0_append_28 : decode cX0_append 28 = .ok (.iload_n 2, 1) := by decide +kernel
theorem dX0_append_29 : decode cX0_append 29 = .ok (.iastore, 1) := by decide +kernel
theorem dX0_append_30 : decode cX0_append 30 = .ok (.aload_n 0, 1) := by decide +kernel
theorem dX0_append_31 : decode cX0_append 31 = .ok (.dup, 1) := by decide +kernel
theorem dX0_append_32 : decode cX0_append 32 = .ok (.getfield 9, 3) := by decide +kernel
theorem dX0_append_35 : decode cX0_append 35 = .ok (.iconst 1, 1) := by decide +kernel
theorem dX0_append_36 : decode cX0_append 36 = .ok (.iadd, 1) := by decide +kernel
theorem dX0_append_37 : decode cX0_append 37 = .ok (.putfield 9, 3) := by decide +kernel
theorem dX0_append_40 : decode cX0_append 40 = .ok (.return_, 1) := by decide +kernel
theorem dX0_removeAt_0 : decode cX0_removeAt 0 = .ok (.iload_n 1, 1) := by decide +kernel
theorem dX0_removeAt_1 : decode cX0_removeAt 1 = .ok (.istore_n 2, 1) := by decide +kernel
theorem dX0_removeAt_2 : decode cX0_removeAt 2 = .ok (.iload_n 2, 1) := by decide +kernel
theorem dX0_removeAt_3 : decode cX0_removeAt 3 = .ok (.iconst 1, 1) := by decide +kernel
theorem dX0_removeAt_4 : decode cX0_removeAt 4 = .ok (.iadd, 1) := by decide +kernel
theorem dX0_removeAt_5 : decode cX0_removeAt 5 = .ok (.aload_n 0, 1) := by decide +kernel
theorem dX0_removeAt_6 : decode cX0_removeAt 6 = .ok (.getfield 9, 3) := by decide +kernel
theorem dX0_removeAt_9 : decode cX0_removeAt 9 = .ok (.if_icmp .ge 37, 3) := by decide +kernel
theorem dX0_removeAt_12 : decode cX0_removeAt 12 = .ok (.aload_n 0, 1) := by decide +kernel
theorem dX0_removeAt_13 : decode cX0_removeAt 13 = .ok (.getfield 15, 3) := by decide +kernel
theorem dX0_removeAt_16 : decode cX0_removeAt 16 = .ok (.iload_n 2, 1) := by decide +kernel
theorem dX0_removeAt_17 : decode cX0_removeAt 17 = .ok (.aload_n 0, 1) := by decide +kernel
theorem dX0_removeAt_18 : decode cX0_removeAt 18 = .ok (.getfield 15, 3) := by decide +kernel
theorem dX0_removeAt_21 : decode cX0_removeAt 21 = .ok (.iload_n 2, 1) := by decide +kernel
theorem dX0_removeAt_22 : decode cX0_removeAt 22 = .ok (.iconst 1, 1) := by decide +kernel
theorem dX0_removeAt_23 : decode cX0_removeAt 23 = .ok (.iadd, 1) := by decide +kernel
theorem dX0_removeAt_24 : decode cX0_removeAt 24 = .ok (.iaload, 1) := by decide +kernel
theorem dX0_removeAt_25 : decode cX0_removeAt 25 = .ok (.iastore, 1) := by decide +kernel
theorem dX0_removeAt_26 : decode cX0_removeAt 26 = .ok (.aload_n 0, 1) := by decide +kernel
theorem dX0_removeAt_27 : decode cX0_removeAt 27 = .ok (.getfield 19, 3) := by decide +kernel
theorem dX0_removeAt_30 : decode cX0_removeAt 30 = .ok (.iload_n 2, 1) := by decide +kernel
theorem dX0_removeAt_31 : decode cX0_removeAt 31 = .ok (.aload_n 0, 1) := by decide +kernel
theorem dX0_removeAt_32 : decode cX0_removeAt 32 = .ok (.getfield 19, 3) := by decide +kernel
theorem dX0_removeAt_35 : decode cX0_removeAt 35 = .ok (.iload_n 2, 1) := by decide +kernel
theorem dX0_removeAt_36 : decode cX0_removeAt 36 = .ok (.iconst 1, 1) := by decide +kernel
theorem dX0_removeAt_37 : decode cX0_removeAt 37 = .ok (.iadd, 1) := by decide +kernel
theorem dX0_removeAt_38 : decode cX0_removeAt 38 = .ok (.iaload, 1) := by decide +kernel
theorem dX0_removeAt_39 : decode cX0_removeAt 39 = .ok (.iastore, 1) := by decide +kernel
theorem dX0_removeAt_40 : decode cX0_removeAt 40 = .ok (.iinc 2 1, 3) := by decide +kernel
theorem dX0_removeAt_43 : decode cX0_removeAt 43 = .ok (.goto (-41), 3) := by decide +kernel
theorem dX0_removeAt_46 : decode cX0_removeAt 46 = .ok (.aload_n 0, 1) := by decide +kernel
theorem dX0_removeAt_47 : decode cX0_removeAt 47 = .ok (.dup, 1) := by decide +kernel
theorem dX0_removeAt_48 : decode cX0_removeAt 48 = .ok (.getfield 9, 3) := by decide +kernel
theorem dX0_removeAt_51 : decode cX0_removeAt 51 = .ok (.iconst 1, 1) := by decide +kernel
theorem dX0_removeAt_52 : decode cX0_removeAt 52 = .ok (.isub, 1) := by decide +kernel
theorem dX0_removeAt_53 : decode cX0_removeAt 53 = .ok (.putfield 9, 3) := by decide +kernel
theorem dX0_removeAt_56 : decode cX0_removeAt 56 = .ok (.return_, 1) := by decide +kernel
theorem dX0_copyFrom_0 : decode cX0_copyFrom 0 = .ok (.aload_n 0, 1) := by decide +kernel
theorem dX0_copyFrom_1 : decode cX0_copyFrom 1 = .ok (.aload_n 1, 1) := by decide +kernel
theorem dX0_copyFrom_2 : decode cX0_copyFrom 2 = .ok (.getfield 9, 3) := by decide +kernel
theorem dX0_copyFrom_5 : decode cX0_copyFrom 5 = .ok (.putfield 9, 3) := by decide +kernel
theorem dX0_copyFrom_8 : decode cX0_copyFrom 8 = .ok (.iconst 0, 1) := by decide +kernel
theorem dX0_copyFrom_9 : decode cX0_copyFrom 9 = .ok (.istore_n 2, 1) := by decide +kernel
theorem dX0_copyFrom_10 : decode cX0_copyFrom 10 = .ok (.iload_n 2, 1) := by decide +kernel
theorem dX0_copyFrom_11 : decode cX0_copyFrom 11 = .ok (.aload_n 0, 1) := by decide +kernel
theorem dX0_copyFrom_12 : decode cX0_copyFrom 12 = .ok (.getfield 9, 3) := by decide +kernel
theorem dX0_copyFrom_15 : decode cX0_copyFrom 15 = .ok (.if_icmp .ge 33, 3) := by decide +kernel
theorem dX0_copyFrom_18 : decode cX0_copyFrom 18 = .ok (.aload_n 0, 1) := by decide +kernel
theorem dX0_copyFrom_19 : decode cX0_copyFrom 19 = .ok (.getfield 15, 3) := by decide +kernel
theorem dX0_copyFrom_22 : decode cX0_copyFrom 22 = .ok (.iload_n 2, 1) := by decide +kernel
theorem dX0_copyFrom_23 : decode cX0_copyFrom 23 = .ok (.aload_n 1, 1) := by decide +kernel
theorem dX0_copyFrom_24 : decode cX0_copyFrom 24 = .ok (.getfield 15, 3) := by decide +kernel
theorem dX0_copyFrom_27 : decode cX0_copyFrom 27 = .ok (.iload_n 2, 1) := by decide +kernel
theorem dX0_copyFrom_28 : decode cX0_copyFrom 28 = .ok (.iaload, 1) := by decide +kernel
theorem dX0_copyFrom_29 : decode cX0_copyFrom 29 = .ok (.iastore, 1) := by decide +kernel
theorem dX0_copyFrom_30 : decode cX0_copyFrom 30 = .ok (.aload_n 0, 1) := by decide +kernel
theorem dX0_copyFrom_31 : decode cX0_copyFrom 31 = .ok (.getfield 19, 3) := by decide +kernel
theorem dX0_copyFrom_34 : decode cX0_copyFrom 34 = .ok (.iload_n 2, 1) := by decide +kernel
theorem dX0_copyFrom_35 : decode cX0_copyFrom 35 = .ok (.aload_n 1, 1) := by decide +kernel
theorem dX0_copyFrom_36 : decode cX0_copyFrom 36 = .ok (.getfield 19, 3) := by decide +kernel
theorem dX0_copyFrom_39 : decode cX0_copyFrom 39 = .ok (.iload_n 2, 1) := by decide +kernel
theorem dX0_copyFrom_40 : decode cX0_copyFrom 40 = .ok (.iaload, 1) := by decide +kernel
theorem dX0_copyFrom_41 : decode cX0_copyFrom 41 = .ok (.iastore, 1) := by decide +kernel
theorem dX0_copyFrom_42 : decode cX0_copyFrom 42 = .ok (.iinc 2 1, 3) := by decide +kernel
theorem dX0_copyFrom_45 : decode cX0_copyFrom 45 = .ok (.goto (-35), 3) := by decide +kernel
theorem dX0_copyFrom_48 : decode cX0_copyFrom 48 = .ok (.return_, 1) := by decide +kernel
theorem dX1_init_0 : decode cX1_init 0 = .ok (.aload_n 0, 1) := by decide +kernel
theorem dX1_init_1 : decode cX1_init 1 = .ok (.invokespecial 3, 3) := by decide +kernel
theorem dX1_init_4 : decode cX1_init 4 = .ok (.aload_n 0, 1) := by decide +kernel
theorem dX1_init_5 : decode cX1_init 5 = .ok (.iconst 3, 1) := by decide +kernel
theorem dX1_init_6 : decode cX1_init 6 = .ok (.newarray .boolean, 2) := by decide +kernel
theorem dX1_init_8 : decode cX1_init 8 = .ok (.putfield 9, 3) := by decide +kernel
theorem dX1_init_11 : decode cX1_init 11 = .ok (.aload_n 0, 1) := by decide +kernel
theorem dX1_init_12 : decode cX1_init 12 = .ok (.iconst 3, 1) := by decide +kernel
theorem dX1_init_13 : decode cX1_init 13 = .ok (.newarray .int, 2) := by decide +kernel
theorem dX1_init_15 : decode cX1_init 15 = .ok (.putfield 15, 3) := by decide +kernel
theorem dX1_init_18 : decode cX1_init 18 = .ok (.aload_n 0, 1) := by decide +kernel
theorem dX1_init_19 : decode cX1_init 19 = .ok (.iconst 3, 1) := by decide +kernel
theorem dX1_init_20 : decode cX1_init 20 = .ok (.newarray .int, 2) := by decide +kernel
theorem dX1_init_22 : decode cX1_init 22 = .ok (.putfield 19, 3) := by decide +kernel
theorem dX1_init_25 : decode cX1_init 25 = .ok (.aload_n 0, 1) := by decide +kernel
theorem dX1_init_26 : decode cX1_init 26 = .ok (.iconst 3, 1) := by decide +kernel
theorem dX1_init_27 : decode cX1_init 27 = .ok (.newarray .int, 2) := by decide +kernel
theorem dX1_init_29 : decode cX1_init 29 = .ok (.putfield 22, 3) := by decide +kernel
theorem dX1_init_32 : decode cX1_init 32 = .ok (.aload_n 0, 1) := by decide +kernel
theorem dX1_init_33 : decode cX1_init 33 = .ok (.bipush 6, 2) := by decide +kernel
theorem dX1_init_35 : decode cX1_init 35 = .ok (.newarray .int, 2) := by decide +kernel
theorem dX1_init_37 : decode cX1_init 37 = .ok (.putfield 25, 3) := by decide +kernel
theorem dX1_init_40 : decode cX1_init 40 = .ok (.aload_n 0, 1) := by decide +kernel
theorem dX1_init_41 : decode cX1_init 41 = .ok (.bipush 6, 2) := by decide +kernel
theorem dX1_init_43 : decode cX1_init 43 = .ok (.newarray .int, 2) := by decide +kernel
theorem dX1_init_45 : decode cX1_init 45 = .ok (.putfield 28, 3) := by decide +kernel
theorem dX1_init_48 : decode cX1_init 48 = .ok (.aload_n 0, 1) := by decide +kernel
theorem dX1_init_49 : decode cX1_init 49 = .ok (.bipush 16, 2) := by decide +kernel
theorem dX1_init_51 : decode cX1_init 51 = .ok (.newarray .int, 2) := by decide +kernel
theorem dX1_init_53 : decode cX1_init 53 = .ok (.putfield 31, 3) := by decide +kernel
theorem dX1_init_56 : decode cX1_init 56 = .ok (.aload_n 0, 1) := by decide +kernel
theorem dX1_init_57 : decode cX1_init 57 = .ok (.bipush 16, 2) := by decide +kernel
theorem dX1_init_59 : decode cX1_init 59 = .ok (.newarray .int, 2) := by decide +kernel
theorem dX1_init_61 : decode cX1_init 61 = .ok (.putfield 34, 3) := by decide +kernel
theorem dX1_init_64 : decode cX1_init 64 = .ok (.return_, 1) := by decide +kernel
theorem dX1_forgetAnswers_0 : decode cX1_forgetAnswers 0 = .ok (.iconst 0, 1) := by decide +kernel
theorem dX1_forgetAnswers_1 : decode cX1_forgetAnswers 1 = .ok (.istore_n 1, 1) := by decide +kernel
theorem dX1_forgetAnswers_2 : decode cX1_forgetAnswers 2 = .ok (.iload_n 1, 1) := by decide +kernel
theorem dX1_forgetAnswers_3 : decode cX1_forgetAnswers 3 = .ok (.iconst 3, 1) := by decide +kernel
theorem dX1_forgetAnswers_4 : decode cX1_forgetAnswers 4 = .ok (.if_icmp .ge 16, 3) := by decide +kernel
theorem dX1_forgetAnswers_7 : decode cX1_forgetAnswers 7 = .ok (.aload_n 0, 1) := by decide +kernel
theorem dX1_forgetAnswers_8 : decode cX1_forgetAnswers 8 = .ok (.getfield 9, 3) := by decide +kernel
theorem dX1_forgetAnswers_11 : decode cX1_forgetAnswers 11 = .ok (.iload_n 1, 1) := by decide +kernel
theorem dX1_forgetAnswers_12 : decode cX1_forgetAnswers 12 = .ok (.iconst 0, 1) := by decide +kernel
theorem dX1_forgetAnswers_13 : decode cX1_forgetAnswers 13 = .ok (.bastore, 1) := by decide +kernel
theorem dX1_forgetAnswers_14 : decode cX1_forgetAnswers 14 = .ok (.iinc 1 1, 3) := by decide +kernel
theorem dX1_forgetAnswers_17 : decode cX1_forgetAnswers 17 = .ok (.goto (-15), 3) := by decide +kernel
theorem dX1_forgetAnswers_20 : decode cX1_forgetAnswers 20 = .ok (.return_, 1) := by decide +kernel
theorem dX1_search_0 : decode cX1_search 0 = .ok (.aload_n 0, 1) := by decide +kernel
theorem dX1_search_1 : decode cX1_search 1 = .ok (.iload_n 2, 1) := by decide +kernel
theorem dX1_search_2 : decode cX1_search 2 = .ok (.bipush (-9), 2) := by decide +kernel
theorem dX1_search_4 : decode cX1_search 4 = .ok (.bipush (-9), 2) := by decide +kernel
theorem dX1_search_6 : decode cX1_search 6 = .ok (.bipush (-9), 2) := by decide +kernel
theorem dX1_search_8 : decode cX1_search 8 = .ok (.invokevirtual 37, 3) := by decide +kernel
theorem dX1_search_11 : decode cX1_search 11 = .ok (.aload_n 1, 1) := by decide +kernel
theorem dX1_search_12 : decode cX1_search 12 = .ok (.iload_n 2, 1) := by decide +kernel
theorem dX1_search_13 : decode cX1_search 13 = .ok (.invokevirtual 41, 3) := by decide +kernel
theorem dX1_search_16 : decode cX1_search 16 = .ok (.ifCond .eq 14, 3) := by decide +kernel
theorem dX1_search_19 : decode cX1_search 19 = .ok (.aload_n 0, 1) := by decide +kernel
theorem dX1_search_20 : decode cX1_search 20 = .ok (.iload_n 2, 1) := by decide +kernel
theorem dX1_search_21 : decode cX1_search 21 = .ok (.iconst 0, 1) := by decide +kernel
theorem dX1_search_22 : decode cX1_search 22 = .ok (.bipush (-5), 2) := by decide +kernel
theorem dX1_search_24 : decode cX1_search 24 = .ok (.bipush (-5), 2) := by decide +kernel
theorem dX1_search_26 : decode cX1_search 26 = .ok (.invokevirtual 37, 3) := by decide +kernel
theorem dX1_search_29 : decode cX1_search 29 = .ok (.return_, 1) := by decide +kernel
theorem dX1_search_30 : decode cX1_search 30 = .ok (.aload_n 1, 1) := by decide +kernel
theorem dX1_search_31 : decode cX1_search 31 = .ok (.aload_n 0, 1) := by decide +kernel
theorem dX1_search_32 : decode cX1_search 32 = .ok (.getfield 31, 3) := by decide +kernel
theorem dX1_search_35 : decode cX1_search 35 = .ok (.invokevirtual 47, 3) := by decide +kernel
theorem dX1_search_38 : decode cX1_search 38 = .ok (.aload_n 0, 1) := by decide +kernel
theorem dX1_search_39 : decode cX1_search 39 = .ok (.aload_n 1, 1) := by decide +kernel
theorem dX1_search_40 : decode cX1_search 40 = .ok (.iload_n 2, 1) := by decide +kernel
theorem dX1_search_41 : decode cX1_search 41 = .ok (.invokevirtual 51, 3) := by decide +kernel
theorem dX1_search_44 : decode cX1_search 44 = .ok (.ifCond .ne 9, 3) := by decide +kernel
theorem dX1_search_47 : decode cX1_search 47 = .ok (.aload_n 0, 1) := by decide +kernel
theorem dX1_search_48 : decode cX1_search 48 = .ok (.aload_n 1, 1) := by decide +kernel
theorem dX1_search_49 : decode cX1_search 49 = .ok (.iload_n 2, 1) := by decide +kernel
theorem dX1_search_50 : decode cX1_search 50 = .ok (.invokevirtual 55, 3) := by decide +kernel
theorem dX1_search_53 : decode cX1_search 53 = .ok (.return_, 1) := by decide +kernel
theorem dX1_answer_0 : decode cX1_answer 0 = .ok (.aload_n 0, 1) := by decide +kernel
theorem dX1_answer_1 : decode cX1_answer 1 = .ok (.getfield 9, 3) := by decide +kernel
theorem dX1_answer_4 : decode cX1_answer 4 = .ok (.iload_n 1, 1) := by decide +kernel
theorem dX1_answer_5 : decode cX1_answer 5 = .ok (.iconst 1, 1) := by decide +kernel
theorem dX1_answer_6 : decode cX1_answer 6 = .ok (.bastore, 1) := by decide +kernel
theorem dX1_answer_7 : decode cX1_answer 7 = .ok (.aload_n 0, 1) := by decide +kernel
theorem dX1_answer_8 : decode cX1_answer 8 = .ok (.getfield 15, 3) := by decide +kernel
theorem dX1_answer_11 : decode cX1_answer 11 = .ok (.iload_n 1, 1) := by decide +kernel
theorem dX1_answer_12 : decode cX1_answer 12 = .ok (.iload_n 2, 1) := by decide +kernel
theorem dX1_answer_13 : decode cX1_answer 13 = .ok (.iastore, 1) := by decide +kernel
theorem dX1_answer_14 : decode cX1_answer 14 = .ok (.aload_n 0, 1) := by decide +kernel
theorem dX1_answer_15 : decode cX1_answer 15 = .ok (.getfield 19, 3) := by decide +kernel
theorem dX1_answer_18 : decode cX1_answer 18 = .ok (.iload_n 1, 1) := by decide +kernel
theorem dX1_answer_19 : decode cX1_answer 19 = .ok (.iload_n 3, 1) := by decide +kernel
theorem dX1_answer_20 : decode cX1_answer 20 = .ok (.iastore, 1) := by decide +kernel
theorem dX1_answer_21 : decode cX1_answer 21 = .ok (.aload_n 0, 1) := by decide +kernel
theorem dX1_answer_22 : decode cX1_answer 22 = .ok (.getfield 22, 3) := by decide +kernel
theorem dX1_answer_25 : decode cX1_answer 25 = .ok (.iload_n 1, 1) := by decide +kernel
theorem dX1_answer_26 : decode cX1_answer 26 = .ok (.iload 4, 2) := by decide +kernel
theorem dX1_answer_28 : decode cX1_answer 28 = .ok (.iastore, 1) := by decide +kernel
theorem dX1_answer_29 : decode cX1_answer 29 = .ok (.return_, 1) := by decide +kernel
theorem dX1_changesSomebody_0 : decode cX1_changesSomebody 0 = .ok (.aload_n 0, 1) := by decide +kernel
theorem dX1_changesSomebody_1 : decode cX1_changesSomebody 1 = .ok (.getfield 59, 3) := by decide +kernel
theorem dX1_changesSomebody_4 : decode cX1_changesSomebody 4 = .ok (.iload_n 1, 1) := by decide +kernel
theorem dX1_changesSomebody_5 : decode cX1_changesSomebody 5 = .ok (.iaload, 1) := by decide +kernel
theorem dX1_changesSomebody_6 : decode cX1_changesSomebody 6 = .ok (.istore_n 3, 1) := by decide +kernel
theorem dX1_changesSomebody_7 : decode cX1_changesSomebody 7 = .ok (.aload_n 0, 1) := by decide +kernel
theorem dX1_changesSomebody_8 : decode cX1_changesSomebody 8 = .ok (.getfield 64, 3) := by decide +kernel
theorem dX1_changesSomebody_11 : decode cX1_changesSomebody 11 = .ok (.iload_n 1, 1) := by decide +kernel
theorem dX1_changesSomebody_12 : decode cX1_changesSomebody 12 = .ok (.iaload, 1) := by decide +kernel
theorem dX1_changesSomebody_13 : decode cX1_changesSomebody 13 = .ok (.istore 4, 2) := by decide +kernel
theorem dX1_changesSomebody_15 : decode cX1_changesSomebody 15 = .ok (.iload_n 3, 1) := by decide +kernel
theorem dX1_changesSomebody_16 : decode cX1_changesSomebody 16 = .ok (.iload 4, 2) := by decide +kernel
theorem dX1_changesSomebody_18 : decode cX1_changesSomebody 18 = .ok (.if_icmp .eq 25, 3) := by decide +kernel
theorem dX1_changesSomebody_21 : decode cX1_changesSomebody 21 = .ok (.iload 4, 2) := by decide +kernel
theorem dX1_changesSomebody_23 : decode cX1_changesSomebody 23 = .ok (.aload_n 0, 1) := by decide +kernel
theorem dX1_changesSomebody_24 : decode cX1_changesSomebody 24 = .ok (.getfield 67, 3) := by decide +kernel
theorem dX1_changesSomebody_27 : decode cX1_changesSomebody 27 = .ok (.if_icmp .ge 16, 3) := by decide +kernel
theorem dX1_changesSomebody_30 : decode cX1_changesSomebody 30 = .ok (.iload_n 2, 1) := by decide +kernel
theorem dX1_changesSomebody_31 : decode cX1_changesSomebody 31 = .ok (.iload_n 3, 1) := by decide +kernel
theorem dX1_changesSomebody_32 : decode cX1_changesSomebody 32 = .ok (.ishr, 1) := by decide +kernel
theorem dX1_changesSomebody_33 : decode cX1_changesSomebody 33 = .ok (.iconst 1, 1) := by decide +kernel
theorem dX1_changesSomebody_34 : decode cX1_changesSomebody 34 = .ok (.iand, 1) := by decide +kernel
theorem dX1_changesSomebody_35 : decode cX1_changesSomebody 35 = .ok (.iconst 1, 1) := by decide +kernel
theorem dX1_changesSomebody_36 : decode cX1_changesSomebody 36 = .ok (.if_icmp .ne 7, 3) := by decide +kernel
theorem dX1_changesSomebody_39 : decode cX1_changesSomebody 39 = .ok (.iconst 1, 1) := by decide +kernel
theorem dX1_changesSomebody_40 : decode cX1_changesSomebody 40 = .ok (.goto 4, 3) := by decide +kernel
theorem dX1_changesSomebody_43 : decode cX1_changesSomebody 43 = .ok (.iconst 0, 1) := by decide +kernel
theorem dX1_changesSomebody_44 : decode cX1_changesSomebody 44 = .ok (.ireturn, 1) := by decide +kernel
theorem dX1_code_0 : decode cX1_code 0 = .ok (.bipush 10, 2) := by decide +kernel
theorem dX1_code_2 : decode cX1_code 2 = .ok (.iload_n 0, 1) := by decide +kernel
theorem dX1_code_3 : decode cX1_code 3 = .ok (.imul, 1) := by decide +kernel
theorem dX1_code_4 : decode cX1_code 4 = .ok (.iload_n 1, 1) := by decide +kernel
theorem dX1_code_5 : decode cX1_code 5 = .ok (.iadd, 1) := by decide +kernel
theorem dX1_code_6 : decode cX1_code 6 = .ok (.ireturn, 1) := by decide +kernel
theorem dX1_searchOne_0 : decode cX1_searchOne 0 = .ok (.aload_n 1, 1) := by decide +kernel
theorem dX1_searchOne_1 : decode cX1_searchOne 1 = .ok (.getfield 71, 3) := by decide +kernel
theorem dX1_searchOne_4 : decode cX1_searchOne 4 = .ok (.astore_n 3, 1) := by decide +kernel
theorem dX1_searchOne_5 : decode cX1_searchOne 5 = .ok (.iconst 0, 1) := by decide +kernel
theorem dX1_searchOne_6 : decode cX1_searchOne 6 = .ok (.istore 4, 2) := by decide +kernel
theorem dX1_searchOne_8 : decode cX1_searchOne 8 = .ok (.iload 4, 2) := by decide +kernel
theorem dX1_searchOne_10 : decode cX1_searchOne 10 = .ok (.aload_n 3, 1) := by decide +kernel
theorem dX1_searchOne_11 : decode cX1_searchOne 11 = .ok (.getfield 75, 3) := by decide +kernel
theorem dX1_searchOne_14 : decode cX1_searchOne 14 = .ok (.if_icmp .ge 103, 3) := by decide +kernel
theorem dX1_searchOne_17 : decode cX1_searchOne 17 = .ok (.aload_n 1, 1) := by decide +kernel
theorem dX1_searchOne_18 : decode cX1_searchOne 18 = .ok (.iload 4, 2) := by decide +kernel
theorem dX1_searchOne_20 : decode cX1_searchOne 20 = .ok (.aload_n 0, 1) := by decide +kernel
theorem dX1_searchOne_21 : decode cX1_searchOne 21 = .ok (.getfield 25, 3) := by decide +kernel
theorem dX1_searchOne_24 : decode cX1_searchOne 24 = .ok (.invokevirtual 78, 3) := by decide +kernel
theorem dX1_searchOne_27 : decode cX1_searchOne 27 = .ok (.iconst 0, 1) := by decide +kernel
theorem dX1_searchOne_28 : decode cX1_searchOne 28 = .ok (.istore 5, 2) := by decide +kernel
theorem dX1_searchOne_30 : decode cX1_searchOne 30 = .ok (.iload 5, 2) := by decide +kernel
theorem dX1_searchOne_32 : decode cX1_searchOne 32 = .ok (.aload_n 3, 1) := by decide +kernel
theorem dX1_searchOne_33 : decode cX1_searchOne 33 = .ok (.getfield 82, 3) := by decide +kernel
theorem dX1_searchOne_36 : decode cX1_searchOne 36 = .ok (.if_icmp .ge 75, 3) := by decide +kernel
theorem dX1_searchOne_39 : decode cX1_searchOne 39 = .ok (.aload_n 3, 1) := by decide +kernel
theorem dX1_searchOne_40 : decode cX1_searchOne 40 = .ok (.iload 5, 2) := by decide +kernel
theorem dX1_searchOne_42 : decode cX1_searchOne 42 = .ok (.aload_n 0, 1) := by decide +kernel
theorem dX1_searchOne_43 : decode cX1_searchOne 43 = .ok (.getfield 31, 3) := by decide +kernel
theorem dX1_searchOne_46 : decode cX1_searchOne 46 = .ok (.iload 4, 2) := by decide +kernel
theorem dX1_searchOne_48 : decode cX1_searchOne 48 = .ok (.iaload, 1) := by decide +kernel
theorem dX1_searchOne_49 : decode cX1_searchOne 49 = .ok (.invokestatic 85, 3) := by decide +kernel
theorem dX1_searchOne_52 : decode cX1_searchOne 52 = .ok (.ifCond .ne 6, 3) := by decide +kernel
theorem dX1_searchOne_55 : decode cX1_searchOne 55 = .ok (.goto 50, 3) := by decide +kernel
theorem dX1_searchOne_58 : decode cX1_searchOne 58 = .ok (.aload_n 1, 1) := by decide +kernel
theorem dX1_searchOne_59 : decode cX1_searchOne 59 = .ok (.iload 4, 2) := by decide +kernel
theorem dX1_searchOne_61 : decode cX1_searchOne 61 = .ok (.iload 5, 2) := by decide +kernel
theorem dX1_searchOne_63 : decode cX1_searchOne 63 = .ok (.invokevirtual 89, 3) := by decide +kernel
theorem dX1_searchOne_66 : decode cX1_searchOne 66 = .ok (.aload_n 1, 1) := by decide +kernel
theorem dX1_searchOne_67 : decode cX1_searchOne 67 = .ok (.iload_n 2, 1) := by decide +kernel
theorem dX1_searchOne_68 : decode cX1_searchOne 68 = .ok (.invokevirtual 41, 3) := by decide +kernel
theorem dX1_searchOne_71 : decode cX1_searchOne 71 = .ok (.istore 6, 2) := by decide +kernel
theorem dX1_searchOne_73 : decode cX1_searchOne 73 = .ok (.aload_n 1, 1) := by decide +kernel
theorem dX1_searchOne_74 : decode cX1_searchOne 74 = .ok (.iload 4, 2) := by decide +kernel
theorem dX1_searchOne_76 : decode cX1_searchOne 76 = .ok (.aload_n 0, 1) := by decide +kernel
theorem dX1_searchOne_77 : decode cX1_searchOne 77 = .ok (.getfield 25, 3) := by decide +kernel
theorem dX1_searchOne_80 : decode cX1_searchOne 80 = .ok (.invokevirtual 93, 3) := by decide +kernel
theorem dX1_searchOne_83 : decode cX1_searchOne 83 = .ok (.iload 6, 2) := by decide +kernel
theorem dX1_searchOne_85 : decode cX1_searchOne 85 = .ok (.ifCond .eq 20, 3) := by decide +kernel
theorem dX1_searchOne_88 : decode cX1_searchOne 88 = .ok (.aload_n 0, 1) := by decide +kernel
theorem dX1_searchOne_89 : decode cX1_searchOne 89 = .ok (.iload_n 2, 1) := by decide +kernel
theorem dX1_searchOne_90 : decode cX1_searchOne 90 = .ok (.iconst 1, 1) := by decide +kernel
theorem dX1_searchOne_91 : decode cX1_searchOne 91 = .ok (.iload 4, 2) := by decide +kernel
theorem dX1_searchOne_93 : decode cX1_searchOne 93 = .ok (.iload 5, 2) := by decide +kernel
theorem dX1_searchOne_95 : decode cX1_searchOne 95 = .ok (.invokestatic 96, 3) := by decide +kernel
theorem dX1_searchOne_98 : decode cX1_searchOne 98 = .ok (.bipush (-5), 2) := by decide +kernel
theorem dX1_searchOne_100 : decode cX1_searchOne 100 = .ok (.invokevirtual 37, 3) := by decide +kernel
theorem dX1_searchOne_103 : decode cX1_searchOne 103 = .ok (.iconst 1, 1) := by decide +kernel
theorem dX1_searchOne_104 : decode cX1_searchOne 104 = .ok (.ireturn, 1) := by decide +kernel
theorem dX1_searchOne_105 : decode cX1_searchOne 105 = .ok (.iinc 5 1, 3) := by decide +kernel
theorem dX1_searchOne_108 : decode cX1_searchOne 108 = .ok (.goto (-78), 3) := by decide +kernel
theorem dX1_searchOne_111 : decode cX1_searchOne 111 = .ok (.iinc 4 1, 3) := by decide +kernel
theorem dX1_searchOne_114 : decode cX1_searchOne 114 = .ok (.goto (-106), 3) := by decide +kernel
theorem dX1_searchOne_117 : decode cX1_searchOne 117 = .ok (.iconst 0, 1) := by decide +kernel
theorem dX1_searchOne_118 : decode cX1_searchOne 118 = .ok (.ireturn, 1) := by decide +kernel
theorem dX1_searchTwo_0 : decode cX1_searchTwo 0 = .ok (.aload_n 1, 1) := by decide +kernel
theorem dX1_searchTwo_1 : decode cX1_searchTwo 1 = .ok (.getfield 71, 3) := by decide +kernel
theorem dX1_searchTwo_4 : decode cX1_searchTwo 4 = .ok (.astore_n 3, 1) := by decide +kernel
theorem dX1_searchTwo_5 : decode cX1_searchTwo 5 = .ok (.iconst 0, 1) := by decide +kernel
theorem dX1_searchTwo_6 : decode cX1_searchTwo 6 = .ok (.istore 4, 2) := by decide +kernel
theorem dX1_searchTwo_8 : decode cX1_searchTwo 8 = .ok (.iconst 0, 1) := by decide +kernel
theorem dX1_searchTwo_9 : decode cX1_searchTwo 9 = .ok (.istore 5, 2) := by decide +kernel
theorem dX1_searchTwo_11 : decode cX1_searchTwo 11 = .ok (.iload 5, 2) := by decide +kernel
theorem dX1_searchTwo_13 : decode cX1_searchTwo 13 = .ok (.aload_n 3, 1) := by decide +kernel
theorem dX1_searchTwo_14 : decode cX1_searchTwo 14 = .ok (.getfield 75, 3) := by decide +kernel
theorem dX1_searchTwo_17 : decode cX1_searchTwo 17 = .ok (.if_icmp .ge 98, 3) := by decide +kernel
theorem dX1_searchTwo_20 : decode cX1_searchTwo 20 = .ok (.iload 4, 2) := by decide +kernel
theorem dX1_searchTwo_22 : decode cX1_searchTwo 22 = .ok (.ifCond .ne 93, 3) := by decide +kernel
theorem dX1_searchTwo_25 : decode cX1_searchTwo 25 = .ok (.aload_n 1, 1) := by decide +kernel
theorem dX1_searchTwo_26 : decode cX1_searchTwo 26 = .ok (.iload 5, 2) := by decide +kernel
theorem dX1_searchTwo_28 : decode cX1_searchTwo 28 = .ok (.aload_n 0, 1) := by decide +kernel
theorem dX1_searchTwo_29 : decode cX1_searchTwo 29 = .ok (.getfield 25, 3) := by decide +kernel
theorem dX1_searchTwo_32 : decode cX1_searchTwo 32 = .ok (.invokevirtual 78, 3) := by decide +kernel
theorem dX1_searchTwo_35 : decode cX1_searchTwo 35 = .ok (.iconst 0, 1) := by decide +kernel
theorem dX1_searchTwo_36 : decode cX1_searchTwo 36 = .ok (.istore 6, 2) := by decide +kernel
theorem dX1_searchTwo_38 : decode cX1_searchTwo 38 = .ok (.iload 6, 2) := by decide +kernel
theorem dX1_searchTwo_40 : decode cX1_searchTwo 40 = .ok (.aload_n 3, 1) := by decide +kernel
theorem dX1_searchTwo_41 : decode cX1_searchTwo 41 = .ok (.getfield 82, 3) := by decide +kernel
theorem dX1_searchTwo_44 : decode cX1_searchTwo 44 = .ok (.if_icmp .ge 65, 3) := by decide +kernel
theorem dX1_searchTwo_47 : decode cX1_searchTwo 47 = .ok (.iload 4, 2) := by decide +kernel
theorem dX1_searchTwo_49 : decode cX1_searchTwo 49 = .ok (.ifCond .ne 60, 3) := by decide +kernel
theorem dX1_searchTwo_52 : decode cX1_searchTwo 52 = .ok (.aload_n 3, 1) := by decide +kernel
theorem dX1_searchTwo_53 : decode cX1_searchTwo 53 = .ok (.iload 6, 2) := by decide +kernel
theorem dX1_searchTwo_55 : decode cX1_searchTwo 55 = .ok (.aload_n 0, 1) := by decide +kernel
theorem dX1_searchTwo_56 : decode cX1_searchTwo 56 = .ok (.getfield 31, 3) := by decide +kernel
theorem dX1_searchTwo_59 : decode cX1_searchTwo 59 = .ok (.iload 5, 2) := by decide +kernel
theorem dX1_searchTwo_61 : decode cX1_searchTwo 61 = .ok (.iaload, 1) := by decide +kernel
theorem dX1_searchTwo_62 : decode cX1_searchTwo 62 = .ok (.invokestatic 85, 3) := by decide +kernel
theorem dX1_searchTwo_65 : decode cX1_searchTwo 65 = .ok (.ifCond .eq 38, 3) := by decide +kernel
theorem dX1_searchTwo_68 : decode cX1_searchTwo 68 = .ok (.aload_n 1, 1) := by decide +kernel
theorem dX1_searchTwo_69 : decode cX1_searchTwo 69 = .ok (.iload 5, 2) := by decide +kernel
theorem dX1_searchTwo_71 : decode cX1_searchTwo 71 = .ok (.iload 6, 2) := by decide +kernel
theorem dX1_searchTwo_73 : decode cX1_searchTwo 73 = .ok (.invokevirtual 89, 3) := by decide +kernel
theorem dX1_searchTwo_76 : decode cX1_searchTwo 76 = .ok (.aload_n 0, 1) := by decide +kernel
theorem dX1_searchTwo_77 : decode cX1_searchTwo 77 = .ok (.aload_n 1, 1) := by decide +kernel
theorem dX1_searchTwo_78 : decode cX1_searchTwo 78 = .ok (.iload_n 2, 1) := by decide +kernel
theorem dX1_searchTwo_79 : decode cX1_searchTwo 79 = .ok (.iload 5, 2) := by decide +kernel
theorem dX1_searchTwo_81 : decode cX1_searchTwo 81 = .ok (.iload 5, 2) := by decide +kernel
theorem dX1_searchTwo_83 : decode cX1_searchTwo 83 = .ok (.iload 6, 2) := by decide +kernel
theorem dX1_searchTwo_85 : decode cX1_searchTwo 85 = .ok (.invokestatic 96, 3) := by decide +kernel
theorem dX1_searchTwo_88 : decode cX1_searchTwo 88 = .ok (.invokevirtual 100, 3) := by decide +kernel
theorem dX1_searchTwo_91 : decode cX1_searchTwo 91 = .ok (.istore 4, 2) := by decide +kernel
theorem dX1_searchTwo_93 : decode cX1_searchTwo 93 = .ok (.aload_n 1, 1) := by decide +kernel
theorem dX1_searchTwo_94 : decode cX1_searchTwo 94 = .ok (.iload 5, 2) := by decide +kernel
theorem dX1_searchTwo_96 : decode cX1_searchTwo 96 = .ok (.aload_n 0, 1) := by decide +kernel
theorem dX1_searchTwo_97 : decode cX1_searchTwo 97 = .ok (.getfield 25, 3) := by decide +kernel
theorem dX1_searchTwo_100 : decode cX1_searchTwo 100 = .ok (.invokevirtual 93, 3) := by decide +kernel
theorem dX1_searchTwo_103 : decode cX1_searchTwo 103 = .ok (.iinc 6 1, 3) := by decide +kernel
theorem dX1_searchTwo_106 : decode cX1_searchTwo 106 = .ok (.goto (-68), 3) := by decide +kernel
theorem dX1_searchTwo_109 : decode cX1_searchTwo 109 = .ok (.iinc 5 1, 3) := by decide +kernel
theorem dX1_searchTwo_112 : decode cX1_searchTwo 112 = .ok (.goto (-101), 3) := by decide +kernel
theorem dX1_searchTwo_115 : decode cX1_searchTwo 115 = .ok (.return_, 1) := by decide +kernel
theorem dX1_searchSecond_0 : decode cX1_searchSecond 0 = .ok (.aload_n 1, 1) := by decide +kernel
theorem dX1_searchSecond_1 : decode cX1_searchSecond 1 = .ok (.getfield 71, 3) := by decide +kernel
theorem dX1_searchSecond_4 : decode cX1_searchSecond 4 = .ok (.astore 5, 2) := by decide +kernel
theorem dX1_searchSecond_6 : decode cX1_searchSecond 6 = .ok (.aload_n 1, 1) := by decide +kernel
theorem dX1_searchSecond_7 : decode cX1_searchSecond 7 = .ok (.aload_n 0, 1) := by decide +kernel
theorem dX1_searchSecond_8 : decode cX1_searchSecond 8 = .ok (.getfield 34, 3) := by decide +kernel
theorem dX1_searchSecond_11 : decode cX1_searchSecond 11 = .ok (.invokevirtual 47, 3) := by decide +kernel
theorem dX1_searchSecond_14 : decode cX1_searchSecond 14 = .ok (.iload_n 3, 1) := by decide +kernel
theorem dX1_searchSecond_15 : decode cX1_searchSecond 15 = .ok (.istore 6, 2) := by decide +kernel
theorem dX1_searchSecond_17 : decode cX1_searchSecond 17 = .ok (.iload 6, 2) := by decide +kernel
theorem dX1_searchSecond_19 : decode cX1_searchSecond 19 = .ok (.aload 5, 2) := by decide +kernel
theorem dX1_searchSecond_21 : decode cX1_searchSecond 21 = .ok (.getfield 75, 3) := by decide +kernel
theorem dX1_searchSecond_24 : decode cX1_searchSecond 24 = .ok (.if_icmp .ge 105, 3) := by decide +kernel
theorem dX1_searchSecond_27 : decode cX1_searchSecond 27 = .ok (.aload_n 1, 1) := by decide +kernel
theorem dX1_searchSecond_28 : decode cX1_searchSecond 28 = .ok (.iload 6, 2) := by decide +kernel
theorem dX1_searchSecond_30 : decode cX1_searchSecond 30 = .ok (.aload_n 0, 1) := by decide +kernel
theorem dX1_searchSecond_31 : decode cX1_searchSecond 31 = .ok (.getfield 28, 3) := by decide +kernel
theorem dX1_searchSecond_34 : decode cX1_searchSecond 34 = .ok (.invokevirtual 78, 3) := by decide +kernel
theorem dX1_searchSecond_37 : decode cX1_searchSecond 37 = .ok (.iconst 0, 1) := by decide +kernel
theorem dX1_searchSecond_38 : decode cX1_searchSecond 38 = .ok (.istore 7, 2) := by decide +kernel
theorem dX1_searchSecond_40 : decode cX1_searchSecond 40 = .ok (.iload 7, 2) := by decide +kernel
theorem dX1_searchSecond_42 : decode cX1_searchSecond 42 = .ok (.aload 5, 2) := by decide +kernel
theorem dX1_searchSecond_44 : decode cX1_searchSecond 44 = .ok (.getfield 82, 3) := by decide +kernel
theorem dX1_searchSecond_47 : decode cX1_searchSecond 47 = .ok (.if_icmp .ge 76, 3) := by decide +kernel
theorem dX1_searchSecond_50 : decode cX1_searchSecond 50 = .ok (.aload 5, 2) := by decide +kernel
theorem dX1_searchSecond_52 : decode cX1_searchSecond 52 = .ok (.iload 7, 2) := by decide +kernel
theorem dX1_searchSecond_54 : decode cX1_searchSecond 54 = .ok (.aload_n 0, 1) := by decide +kernel
theorem dX1_searchSecond_55 : decode cX1_searchSecond 55 = .ok (.getfield 34, 3) := by decide +kernel
theorem dX1_searchSecond_58 : decode cX1_searchSecond 58 = .ok (.iload 6, 2) := by decide +kernel
theorem dX1_searchSecond_60 : decode cX1_searchSecond 60 = .ok (.iaload, 1) := by decide +kernel
theorem dX1_searchSecond_61 : decode cX1_searchSecond 61 = .ok (.invokestatic 85, 3) := by decide +kernel
theorem dX1_searchSecond_64 : decode cX1_searchSecond 64 = .ok (.ifCond .ne 6, 3) := by decide +kernel
theorem dX1_searchSecond_67 : decode cX1_searchSecond 67 = .ok (.goto 50, 3) := by decide +kernel
theorem dX1_searchSecond_70 : decode cX1_searchSecond 70 = .ok (.aload_n 1, 1) := by decide +kernel
theorem dX1_searchSecond_71 : decode cX1_searchSecond 71 = .ok (.iload 6, 2) := by decide +kernel
theorem dX1_searchSecond_73 : decode cX1_searchSecond 73 = .ok (.iload 7, 2) := by decide +kernel
theorem dX1_searchSecond_75 : decode cX1_searchSecond 75 = .ok (.invokevirtual 89, 3) := by decide +kernel
theorem dX1_searchSecond_78 : decode cX1_searchSecond 78 = .ok (.aload_n 1, 1) := by decide +kernel
theorem dX1_searchSecond_79 : decode cX1_searchSecond 79 = .ok (.iload_n 2, 1) := by decide +kernel
theorem dX1_searchSecond_80 : decode cX1_searchSecond 80 = .ok (.invokevirtual 41, 3) := by decide +kernel
theorem dX1_searchSecond_83 : decode cX1_searchSecond 83 = .ok (.istore 8, 2) := by decide +kernel
theorem dX1_searchSecond_85 : decode cX1_searchSecond 85 = .ok (.aload_n 1, 1) := by decide +kernel
theorem dX1_searchSecond_86 : decode cX1_searchSecond 86 = .ok (.iload 6, 2) := by decide +kernel
theorem dX1_searchSecond_88 : decode cX1_searchSecond 88 = .ok (.aload_n 0, 1) := by decide +kernel
theorem dX1_searchSecond_89 : decode cX1_searchSecond 89 = .ok (.getfield 28, 3) := by decide +kernel
theorem dX1_searchSecond_92 : decode cX1_searchSecond 92 = .ok (.invokevirtual 93, 3) := by decide +kernel
theorem dX1_searchSecond_95 : decode cX1_searchSecond 95 = .ok (.iload 8, 2) := by decide +kernel
theorem dX1_searchSecond_97 : decode cX1_searchSecond 97 = .ok (.ifCond .eq 20, 3) := by decide +kernel
theorem dX1_searchSecond_100 : decode cX1_searchSecond 100 = .ok (.aload_n 0, 1) := by decide +kernel
theorem dX1_searchSecond_101 : decode cX1_searchSecond 101 = .ok (.iload_n 2, 1) := by decide +kernel
theorem dX1_searchSecond_102 : decode cX1_searchSecond 102 = .ok (.iconst 2, 1) := by decide +kernel
theorem dX1_searchSecond_103 : decode cX1_searchSecond 103 = .ok (.iload 4, 2) := by decide +kernel
theorem dX1_searchSecond_105 : decode cX1_searchSecond 105 = .ok (.iload 6, 2) := by decide +kernel
theorem dX1_searchSecond_107 : decode cX1_searchSecond 107 = .ok (.iload 7, 2) := by decide +kernel
theorem dX1_searchSecond_109 : decode cX1_searchSecond 109 = .ok (.invokestatic 96, 3) := by decide +kernel
theorem dX1_searchSecond_112 : decode cX1_searchSecond 112 = .ok (.invokevirtual 37, 3) := by decide +kernel
theorem dX1_searchSecond_115 : decode cX1_searchSecond 115 = .ok (.iconst 1, 1) := by decide +kernel
theorem dX1_searchSecond_116 : decode cX1_searchSecond 116 = .ok (.ireturn, 1) := by decide +kernel
theorem dX1_searchSecond_117 : decode cX1_searchSecond 117 = .ok (.iinc 7 1, 3) := by decide +kernel
theorem dX1_searchSecond_120 : decode cX1_searchSecond 120 = .ok (.goto (-80), 3) := by decide +kernel
theorem dX1_searchSecond_123 : decode cX1_searchSecond 123 = .ok (.iinc 6 1, 3) := by decide +kernel
theorem dX1_searchSecond_126 : decode cX1_searchSecond 126 = .ok (.goto (-109), 3) := by decide +kernel
theorem dX1_searchSecond_129 : decode cX1_searchSecond 129 = .ok (.iconst 0, 1) := by decide +kernel
theorem dX1_searchSecond_130 : decode cX1_searchSecond 130 = .ok (.ireturn, 1) := by decide +kernel
theorem dX2_init_0 : decode cX2_init 0 = .ok (.aload_n 0, 1) := by decide +kernel
theorem dX2_init_1 : decode cX2_init 1 = .ok (.invokespecial 3, 3) := by decide +kernel
theorem dX2_init_4 : decode cX2_init 4 = .ok (.aload_n 0, 1) := by decide +kernel
theorem dX2_init_5 : decode cX2_init 5 = .ok (.new 9, 3) := by decide +kernel
theorem dX2_init_8 : decode cX2_init 8 = .ok (.dup, 1) := by decide +kernel
theorem dX2_init_9 : decode cX2_init 9 = .ok (.invokespecial 11, 3) := by decide +kernel
theorem dX2_init_12 : decode cX2_init 12 = .ok (.putfield 12, 3) := by decide +kernel
theorem dX2_init_15 : decode cX2_init 15 = .ok (.aload_n 0, 1) := by decide +kernel
theorem dX2_init_16 : decode cX2_init 16 = .ok (.bipush 10, 2) := by decide +kernel
theorem dX2_init_18 : decode cX2_init 18 = .ok (.anewarray 9, 3) := by decide +kernel
theorem dX2_init_21 : decode cX2_init 21 = .ok (.putfield 18, 3) := by decide +kernel
theorem dX2_init_24 : decode cX2_init 24 = .ok (.aload_n 0, 1) := by decide +kernel
theorem dX2_init_25 : decode cX2_init 25 = .ok (.iconst 0, 1) := by decide +kernel
theorem dX2_init_26 : decode cX2_init 26 = .ok (.putfield 22, 3) := by decide +kernel
theorem dX2_init_29 : decode cX2_init 29 = .ok (.iconst 0, 1) := by decide +kernel
theorem dX2_init_30 : decode cX2_init 30 = .ok (.istore_n 1, 1) := by decide +kernel
theorem dX2_init_31 : decode cX2_init 31 = .ok (.iload_n 1, 1) := by decide +kernel
theorem dX2_init_32 : decode cX2_init 32 = .ok (.bipush 10, 2) := by decide +kernel
theorem dX2_init_34 : decode cX2_init 34 = .ok (.if_icmp .ge 22, 3) := by decide +kernel
theorem dX2_init_37 : decode cX2_init 37 = .ok (.aload_n 0, 1) := by decide +kernel
theorem dX2_init_38 : decode cX2_init 38 = .ok (.getfield 18, 3) := by decide +kernel
theorem dX2_init_41 : decode cX2_init 41 = .ok (.iload_n 1, 1) := by decide +kernel
theorem dX2_init_42 : decode cX2_init 42 = .ok (.new 9, 3) := by decide +kernel
theorem dX2_init_45 : decode cX2_init 45 = .ok (.dup, 1) := by decide +kernel
theorem dX2_init_46 : decode cX2_init 46 = .ok (.invokespecial 11, 3) := by decide +kernel
theorem dX2_init_49 : decode cX2_init 49 = .ok (.aastore, 1) := by decide +kernel
theorem dX2_init_50 : decode cX2_init 50 = .ok (.iinc 1 1, 3) := by decide +kernel
theorem dX2_init_53 : decode cX2_init 53 = .ok (.goto (-22), 3) := by decide +kernel
theorem dX2_init_56 : decode cX2_init 56 = .ok (.return_, 1) := by decide +kernel
theorem dX2_reset_0 : decode cX2_reset 0 = .ok (.aload_n 0, 1) := by decide +kernel
theorem dX2_reset_1 : decode cX2_reset 1 = .ok (.getfield 12, 3) := by decide +kernel
theorem dX2_reset_4 : decode cX2_reset 4 = .ok (.iconst 0, 1) := by decide +kernel
theorem dX2_reset_5 : decode cX2_reset 5 = .ok (.putfield 26, 3) := by decide +kernel
theorem dX2_reset_8 : decode cX2_reset 8 = .ok (.aload_n 0, 1) := by decide +kernel
theorem dX2_reset_9 : decode cX2_reset 9 = .ok (.iconst 0, 1) := by decide +kernel
theorem dX2_reset_10 : decode cX2_reset 10 = .ok (.putfield 22, 3) := by decide +kernel
theorem dX2_reset_13 : decode cX2_reset 13 = .ok (.return_, 1) := by decide +kernel
theorem dX2_remember_0 : decode cX2_remember 0 = .ok (.aload_n 0, 1) := by decide +kernel
theorem dX2_remember_1 : decode cX2_remember 1 = .ok (.getfield 22, 3) := by decide +kernel
theorem dX2_remember_4 : decode cX2_remember 4 = .ok (.bipush 10, 2) := by decide +kernel
theorem dX2_remember_6 : decode cX2_remember 6 = .ok (.if_icmp .lt 7, 3) := by decide +kernel
theorem dX2_remember_9 : decode cX2_remember 9 = .ok (.aload_n 0, 1) := by decide +kernel
theorem dX2_remember_10 : decode cX2_remember 10 = .ok (.invokevirtual 29, 3) := by decide +kernel
theorem dX2_remember_13 : decode cX2_remember 13 = .ok (.aload_n 0, 1) := by decide +kernel
theorem dX2_remember_14 : decode cX2_remember 14 = .ok (.getfield 18, 3) := by decide +kernel
theorem dX2_remember_17 : decode cX2_remember 17 = .ok (.aload_n 0, 1) := by decide +kernel
theorem dX2_remember_18 : decode cX2_remember 18 = .ok (.getfield 22, 3) := by decide +kernel
theorem dX2_remember_21 : decode cX2_remember 21 = .ok (.aaload, 1) := by decide +kernel
theorem dX2_remember_22 : decode cX2_remember 22 = .ok (.aload_n 0, 1) := by decide +kernel
theorem dX2_remember_23 : decode cX2_remember 23 = .ok (.getfield 12, 3) := by decide +kernel
theorem dX2_remember_26 : decode cX2_remember 26 = .ok (.invokevirtual 32, 3) := by decide +kernel
theorem dX2_remember_29 : decode cX2_remember 29 = .ok (.aload_n 0, 1) := by decide +kernel
theorem dX2_remember_30 : decode cX2_remember 30 = .ok (.dup, 1) := by decide +kernel
theorem dX2_remember_31 : decode cX2_remember 31 = .ok (.getfield 22, 3) := by decide +kernel
theorem dX2_remember_34 : decode cX2_remember 34 = .ok (.iconst 1, 1) := by decide +kernel
theorem dX2_remember_35 : decode cX2_remember 35 = .ok (.iadd, 1) := by decide +kernel
theorem dX2_remember_36 : decode cX2_remember 36 = .ok (.putfield 22, 3) := by decide +kernel
theorem dX2_remember_39 : decode cX2_remember 39 = .ok (.return_, 1) := by decide +kernel
theorem dX2_loseOldest_0 : decode cX2_loseOldest 0 = .ok (.aload_n 0, 1) := by decide +kernel
theorem dX2_loseOldest_1 : decode cX2_loseOldest 1 = .ok (.getfield 18, 3) := by decide +kernel
theorem dX2_loseOldest_4 : decode cX2_loseOldest 4 = .ok (.iconst 0, 1) := by decide +kernel
theorem dX2_loseOldest_5 : decode cX2_loseOldest 5 = .ok (.aaload, 1) := by decide +kernel
theorem dX2_loseOldest_6 : decode cX2_loseOldest 6 = .ok (.astore_n 1, 1) := by decide +kernel
theorem dX2_loseOldest_7 : decode cX2_loseOldest 7 = .ok (.iconst 0, 1) := by decide +kernel
theorem dX2_loseOldest_8 : decode cX2_loseOldest 8 = .ok (.istore_n 2, 1) := by decide +kernel
theorem dX2_loseOldest_9 : decode cX2_loseOldest 9 = .ok (.iload_n 2, 1) := by decide +kernel
theorem dX2_loseOldest_10 : decode cX2_loseOldest 10 = .ok (.iconst 1, 1) := by decide +kernel
theorem dX2_loseOldest_11 : decode cX2_loseOldest 11 = .ok (.iadd, 1) := by decide +kernel
theorem dX2_loseOldest_12 : decode cX2_loseOldest 12 = .ok (.bipush 10, 2) := by decide +kernel
theorem dX2_loseOldest_14 : decode cX2_loseOldest 14 = .ok (.if_icmp .ge 23, 3) := by decide +kernel
theorem dX2_loseOldest_17 : decode cX2_loseOldest 17 = .ok (.aload_n 0, 1) := by decide +kernel
theorem dX2_loseOldest_18 : decode cX2_loseOldest 18 = .ok (.getfield 18, 3) := by decide +kernel
theorem dX2_loseOldest_21 : decode cX2_loseOldest 21 = .ok (.iload_n 2, 1) := by decide +kernel
theorem dX2_loseOldest_22 : decode cX2_loseOldest 22 = .ok (.aload_n 0, 1) := by decide +kernel
theorem dX2_loseOldest_23 : decode cX2_loseOldest 23 = .ok (.getfield 18, 3) := by decide +kernel
theorem dX2_loseOldest_26 : decode cX2_loseOldest 26 = .ok (.iload_n 2, 1) := by decide +kernel
theorem dX2_loseOldest_27 : decode cX2_loseOldest 27 = .ok (.iconst 1, 1) := by decide +kernel
theorem dX2_loseOldest_28 : decode cX2_loseOldest 28 = .ok (.iadd, 1) := by decide +kernel
theorem dX2_loseOldest_29 : decode cX2_loseOldest 29 = .ok (.aaload, 1) := by decide +kernel
theorem dX2_loseOldest_30 : decode cX2_loseOldest 30 = .ok (.aastore, 1) := by decide +kernel
theorem dX2_loseOldest_31 : decode cX2_loseOldest 31 = .ok (.iinc 2 1, 3) := by decide +kernel
theorem dX2_loseOldest_34 : decode cX2_loseOldest 34 = .ok (.goto (-25), 3) := by decide +kernel
theorem dX2_loseOldest_37 : decode cX2_loseOldest 37 = .ok (.aload_n 0, 1) := by decide +kernel
theorem dX2_loseOldest_38 : decode cX2_loseOldest 38 = .ok (.getfield 18, 3) := by decide +kernel
theorem dX2_loseOldest_41 : decode cX2_loseOldest 41 = .ok (.bipush 9, 2) := by decide +kernel
theorem dX2_loseOldest_43 : decode cX2_loseOldest 43 = .ok (.aload_n 1, 1) := by decide +kernel
theorem dX2_loseOldest_44 : decode cX2_loseOldest 44 = .ok (.aastore, 1) := by decide +kernel
theorem dX2_loseOldest_45 : decode cX2_loseOldest 45 = .ok (.aload_n 0, 1) := by decide +kernel
theorem dX2_loseOldest_46 : decode cX2_loseOldest 46 = .ok (.bipush 9, 2) := by decide +kernel
theorem dX2_loseOldest_48 : decode cX2_loseOldest 48 = .ok (.putfield 22, 3) := by decide +kernel
theorem dX2_loseOldest_51 : decode cX2_loseOldest 51 = .ok (.return_, 1) := by decide +kernel
theorem dX2_goBack_0 : decode cX2_goBack 0 = .ok (.aload_n 0, 1) := by decide +kernel
theorem dX2_goBack_1 : decode cX2_goBack 1 = .ok (.getfield 22, 3) := by decide +kernel
theorem dX2_goBack_4 : decode cX2_goBack 4 = .ok (.ifCond .gt 4, 3) := by decide +kernel
theorem dX2_goBack_7 : decode cX2_goBack 7 = .ok (.return_, 1) := by decide +kernel
theorem dX2_goBack_8 : decode cX2_goBack 8 = .ok (.aload_n 0, 1) := by decide +kernel
theorem dX2_goBack_9 : decode cX2_goBack 9 = .ok (.dup, 1) := by decide +kernel
theorem dX2_goBack_10 : decode cX2_goBack 10 = .ok (.getfield 22, 3) := by decide +kernel
theorem dX2_goBack_13 : decode cX2_goBack 13 = .ok (.iconst 1, 1) := by decide +kernel
theorem dX2_goBack_14 : decode cX2_goBack 14 = .ok (.isub, 1) := by decide +kernel
theorem dX2_goBack_15 : decode cX2_goBack 15 = .ok (.putfield 22, 3) := by decide +kernel
theorem dX2_goBack_18 : decode cX2_goBack 18 = .ok (.aload_n 0, 1) := by decide +kernel
theorem dX2_goBack_19 : decode cX2_goBack 19 = .ok (.getfield 12, 3) := by decide +kernel
theorem dX2_goBack_22 : decode cX2_goBack 22 = .ok (.aload_n 0, 1) := by decide +kernel
theorem dX2_goBack_23 : decode cX2_goBack 23 = .ok (.getfield 18, 3) := by decide +kernel
theorem dX2_goBack_26 : decode cX2_goBack 26 = .ok (.aload_n 0, 1) := by decide +kernel
theorem dX2_goBack_27 : decode cX2_goBack 27 = .ok (.getfield 22, 3) := by decide +kernel
theorem dX2_goBack_30 : decode cX2_goBack 30 = .ok (.aaload, 1) := by decide +kernel
theorem dX2_goBack_31 : decode cX2_goBack 31 = .ok (.invokevirtual 32, 3) := by decide +kernel
theorem dX2_goBack_34 : decode cX2_goBack 34 = .ok (.return_, 1) := by decide +kernel
theorem dX2_copyFrom_0 : decode cX2_copyFrom 0 = .ok (.aload_n 0, 1) := by decide +kernel
theorem dX2_copyFrom_1 : decode cX2_copyFrom 1 = .ok (.getfield 12, 3) := by decide +kernel
theorem dX2_copyFrom_4 : decode cX2_copyFrom 4 = .ok (.aload_n 1, 1) := by decide +kernel
theorem dX2_copyFrom_5 : decode cX2_copyFrom 5 = .ok (.getfield 12, 3) := by decide +kernel
theorem dX2_copyFrom_8 : decode cX2_copyFrom 8 = .ok (.invokevirtual 32, 3) := by decide +kernel
theorem dX2_copyFrom_11 : decode cX2_copyFrom 11 = .ok (.aload_n 0, 1) := by decide +kernel
theorem dX2_copyFrom_12 : decode cX2_copyFrom 12 = .ok (.aload_n 1, 1) := by decide +kernel
theorem dX2_copyFrom_13 : decode cX2_copyFrom 13 = .ok (.getfield 22, 3) := by decide +kernel
theorem dX2_copyFrom_16 : decode cX2_copyFrom 16 = .ok (.putfield 22, 3) := by decide +kernel
theorem dX2_copyFrom_19 : decode cX2_copyFrom 19 = .ok (.iconst 0, 1) := by decide +kernel
theorem dX2_copyFrom_20 : decode cX2_copyFrom 20 = .ok (.istore_n 2, 1) := by decide +kernel
theorem dX2_copyFrom_21 : decode cX2_copyFrom 21 = .ok (.iload_n 2, 1) := by decide +kernel
theorem dX2_copyFrom_22 : decode cX2_copyFrom 22 = .ok (.aload_n 0, 1) := by decide +kernel
theorem dX2_copyFrom_23 : decode cX2_copyFrom 23 = .ok (.getfield 22, 3) := by decide +kernel
theorem dX2_copyFrom_26 : decode cX2_copyFrom 26 = .ok (.if_icmp .ge 24, 3) := by decide +kernel
theorem dX2_copyFrom_29 : decode cX2_copyFrom 29 = .ok (.aload_n 0, 1) := by decide +kernel
theorem dX2_copyFrom_30 : decode cX2_copyFrom 30 = .ok (.getfield 18, 3) := by decide +kernel
theorem dX2_copyFrom_33 : decode cX2_copyFrom 33 = .ok (.iload_n 2, 1) := by decide +kernel
theorem dX2_copyFrom_34 : decode cX2_copyFrom 34 = .ok (.aaload, 1) := by decide +kernel
theorem dX2_copyFrom_35 : decode cX2_copyFrom 35 = .ok (.aload_n 1, 1) := by decide +kernel
theorem dX2_copyFrom_36 : decode cX2_copyFrom 36 = .ok (.getfield 18, 3) := by decide +kernel
theorem dX2_copyFrom_39 : decode cX2_copyFrom 39 = .ok (.iload_n 2, 1) := by decide +kernel
theorem dX2_copyFrom_40 : decode cX2_copyFrom 40 = .ok (.aaload, 1) := by decide +kernel
theorem dX2_copyFrom_41 : decode cX2_copyFrom 41 = .ok (.invokevirtual 32, 3) := by decide +kernel
theorem dX2_copyFrom_44 : decode cX2_copyFrom 44 = .ok (.iinc 2 1, 3) := by decide +kernel
theorem dX2_copyFrom_47 : decode cX2_copyFrom 47 = .ok (.goto (-26), 3) := by decide +kernel
theorem dX2_copyFrom_50 : decode cX2_copyFrom 50 = .ok (.return_, 1) := by decide +kernel
theorem dX3_init_0 : decode cX3_init 0 = .ok (.aload_n 0, 1) := by decide +kernel
theorem dX3_init_1 : decode cX3_init 1 = .ok (.invokespecial 3, 3) := by decide +kernel
theorem dX3_init_4 : decode cX3_init 4 = .ok (.aload_n 0, 1) := by decide +kernel
theorem dX3_init_5 : decode cX3_init 5 = .ok (.new 9, 3) := by decide +kernel
theorem dX3_init_8 : decode cX3_init 8 = .ok (.dup, 1) := by decide +kernel
theorem dX3_init_9 : decode cX3_init 9 = .ok (.invokespecial 11, 3) := by decide +kernel
theorem dX3_init_12 : decode cX3_init 12 = .ok (.putfield 12, 3) := by decide +kernel
theorem dX3_init_15 : decode cX3_init 15 = .ok (.aload_n 0, 1) := by decide +kernel
theorem dX3_init_16 : decode cX3_init 16 = .ok (.iconst 0, 1) := by decide +kernel
theorem dX3_init_17 : decode cX3_init 17 = .ok (.putfield 18, 3) := by decide +kernel
theorem dX3_init_20 : decode cX3_init 20 = .ok (.aload_n 0, 1) := by decide +kernel
theorem dX3_init_21 : decode cX3_init 21 = .ok (.iconst 1, 1) := by decide +kernel
theorem dX3_init_22 : decode cX3_init 22 = .ok (.putfield 22, 3) := by decide +kernel
theorem dX3_init_25 : decode cX3_init 25 = .ok (.aload_n 0, 1) := by decide +kernel
theorem dX3_init_26 : decode cX3_init 26 = .ok (.bipush 18, 2) := by decide +kernel
theorem dX3_init_28 : decode cX3_init 28 = .ok (.newarray .int, 2) := by decide +kernel
theorem dX3_init_30 : decode cX3_init 30 = .ok (.putfield 25, 3) := by decide +kernel
theorem dX3_init_33 : decode cX3_init 33 = .ok (.aload_n 0, 1) := by decide +kernel
theorem dX3_init_34 : decode cX3_init 34 = .ok (.bipush 96, 2) := by decide +kernel
theorem dX3_init_36 : decode cX3_init 36 = .ok (.newarray .int, 2) := by decide +kernel
theorem dX3_init_38 : decode cX3_init 38 = .ok (.putfield 29, 3) := by decide +kernel
theorem dX3_init_41 : decode cX3_init 41 = .ok (.aload_n 0, 1) := by decide +kernel
theorem dX3_init_42 : decode cX3_init 42 = .ok (.bipush 16, 2) := by decide +kernel
theorem dX3_init_44 : decode cX3_init 44 = .ok (.newarray .int, 2) := by decide +kernel
theorem dX3_init_46 : decode cX3_init 46 = .ok (.putfield 32, 3) := by decide +kernel
theorem dX3_init_49 : decode cX3_init 49 = .ok (.aload_n 0, 1) := by decide +kernel
theorem dX3_init_50 : decode cX3_init 50 = .ok (.iconst 3, 1) := by decide +kernel
theorem dX3_init_51 : decode cX3_init 51 = .ok (.newarray .int, 2) := by decide +kernel
theorem dX3_init_53 : decode cX3_init 53 = .ok (.putfield 35, 3) := by decide +kernel
theorem dX3_init_56 : decode cX3_init 56 = .ok (.aload_n 0, 1) := by decide +kernel
theorem dX3_init_57 : decode cX3_init 57 = .ok (.bipush 27, 2) := by decide +kernel
theorem dX3_init_59 : decode cX3_init 59 = .ok (.newarray .int, 2) := by decide +kernel
theorem dX3_init_61 : decode cX3_init 61 = .ok (.putfield 38, 3) := by decide +kernel
theorem dX3_init_64 : decode cX3_init 64 = .ok (.aload_n 0, 1) := by decide +kernel
theorem dX3_init_65 : decode cX3_init 65 = .ok (.bipush 16, 2) := by decide +kernel
theorem dX3_init_67 : decode cX3_init 67 = .ok (.newarray .int, 2) := by decide +kernel
theorem dX3_init_69 : decode cX3_init 69 = .ok (.putfield 41, 3) := by decide +kernel
theorem dX3_init_72 : decode cX3_init 72 = .ok (.return_, 1) := by decide +kernel
theorem dX3_prepare_0 : decode cX3_prepare 0 = .ok (.aload_n 0, 1) := by decide +kernel
theorem dX3_prepare_1 : decode cX3_prepare 1 = .ok (.aload_n 1, 1) := by decide +kernel
theorem dX3_prepare_2 : decode cX3_prepare 2 = .ok (.putfield 12, 3) := by decide +kernel
theorem dX3_prepare_5 : decode cX3_prepare 5 = .ok (.aload_n 0, 1) := by decide +kernel
theorem dX3_prepare_6 : decode cX3_prepare 6 = .ok (.aload_n 0, 1) := by decide +kernel
theorem dX3_prepare_7 : decode cX3_prepare 7 = .ok (.getfield 12, 3) := by decide +kernel
theorem dX3_prepare_10 : decode cX3_prepare 10 = .ok (.invokevirtual 44, 3) := by decide +kernel
theorem dX3_prepare_13 : decode cX3_prepare 13 = .ok (.putfield 18, 3) := by decide +kernel
theorem dX3_prepare_16 : decode cX3_prepare 16 = .ok (.aload_n 0, 1) := by decide +kernel
theorem dX3_prepare_17 : decode cX3_prepare 17 = .ok (.aload_n 0, 1) := by decide +kernel
theorem dX3_prepare_18 : decode cX3_prepare 18 = .ok (.getfield 12, 3) := by decide +kernel
theorem dX3_prepare_21 : decode cX3_prepare 21 = .ok (.getfield 48, 3) := by decide +kernel
theorem dX3_prepare_24 : decode cX3_prepare 24 = .ok (.putfield 22, 3) := by decide +kernel
theorem dX3_prepare_27 : decode cX3_prepare 27 = .ok (.iconst 0, 1) := by decide +kernel
theorem dX3_prepare_28 : decode cX3_prepare 28 = .ok (.istore_n 3, 1) := by decide +kernel
theorem dX3_prepare_29 : decode cX3_prepare 29 = .ok (.iload_n 3, 1) := by decide +kernel
theorem dX3_prepare_30 : decode cX3_prepare 30 = .ok (.aload_n 0, 1) := by decide +kernel
theorem dX3_prepare_31 : decode cX3_prepare 31 = .ok (.getfield 12, 3) := by decide +kernel
theorem dX3_prepare_34 : decode cX3_prepare 34 = .ok (.getfield 49, 3) := by decide +kernel
theorem dX3_prepare_37 : decode cX3_prepare 37 = .ok (.if_icmp .ge 14, 3) := by decide +kernel
theorem dX3_prepare_40 : decode cX3_prepare 40 = .ok (.aload_n 0, 1) := by decide +kernel
theorem dX3_prepare_41 : decode cX3_prepare 41 = .ok (.iload_n 3, 1) := by decide +kernel
theorem dX3_prepare_42 : decode cX3_prepare 42 = .ok (.invokevirtual 52, 3) := by decide +kernel
theorem dX3_prepare_45 : decode cX3_prepare 45 = .ok (.iinc 3 1, 3) := by decide +kernel
theorem dX3_prepare_48 : decode cX3_prepare 48 = .ok (.goto (-19), 3) := by decide +kernel
theorem dX3_prepare_51 : decode cX3_prepare 51 = .ok (.iconst 0, 1) := by decide +kernel
theorem dX3_prepare_52 : decode cX3_prepare 52 = .ok (.istore_n 3, 1) := by decide +kernel
theorem dX3_prepare_53 : decode cX3_prepare 53 = .ok (.iload_n 3, 1) := by decide +kernel
theorem dX3_prepare_54 : decode cX3_prepare 54 = .ok (.aload_n 2, 1) := by decide +kernel
theorem dX3_prepare_55 : decode cX3_prepare 55 = .ok (.getfield 56, 3) := by decide +kernel
theorem dX3_prepare_58 : decode cX3_prepare 58 = .ok (.if_icmp .ge 25, 3) := by decide +kernel
theorem dX3_prepare_61 : decode cX3_prepare 61 = .ok (.aload_n 0, 1) := by decide +kernel
theorem dX3_prepare_62 : decode cX3_prepare 62 = .ok (.aload_n 2, 1) := by decide +kernel
theorem dX3_prepare_63 : decode cX3_prepare 63 = .ok (.getfield 61, 3) := by decide +kernel
theorem dX3_prepare_66 : decode cX3_prepare 66 = .ok (.iload_n 3, 1) := by decide +kernel
theorem dX3_prepare_67 : decode cX3_prepare 67 = .ok (.iaload, 1) := by decide +kernel
theorem dX3_prepare_68 : decode cX3_prepare 68 = .ok (.aload_n 2, 1) := by decide +kernel
theorem dX3_prepare_69 : decode cX3_prepare 69 = .ok (.getfield 64, 3) := by decide +kernel
theorem dX3_prepare_72 : decode cX3_prepare 72 = .ok (.iload_n 3, 1) := by decide +kernel
theorem dX3_prepare_73 : decode cX3_prepare 73 = .ok (.iaload, 1) := by decide +kernel
theorem dX3_prepare_74 : decode cX3_prepare 74 = .ok (.invokevirtual 67, 3) := by decide +kernel
theorem dX3_prepare_77 : decode cX3_prepare 77 = .ok (.iinc 3 1, 3) := by decide +kernel
theorem dX3_prepare_80 : decode cX3_prepare 80 = .ok (.goto (-27), 3) := by decide +kernel
theorem dX3_prepare_83 : decode cX3_prepare 83 = .ok (.return_, 1) := by decide +kernel
theorem dX3_prepareState_0 : decode cX3_prepareState 0 = .ok (.iconst 0, 1) := by decide +kernel
theorem dX3_prepareState_1 : decode cX3_prepareState 1 = .ok (.istore_n 2, 1) := by decide +kernel
theorem dX3_prepareState_2 : decode cX3_prepareState 2 = .ok (.iload_n 2, 1) := by decide +kernel
theorem dX3_prepareState_3 : decode cX3_prepareState 3 = .ok (.iconst 3, 1) := by decide +kernel
theorem dX3_prepareState_4 : decode cX3_prepareState 4 = .ok (.if_icmp .ge 49, 3) := by decide +kernel
theorem dX3_prepareState_7 : decode cX3_prepareState 7 = .ok (.aload_n 0, 1) := by decide +kernel
theorem dX3_prepareState_8 : decode cX3_prepareState 8 = .ok (.getfield 12, 3) := by decide +kernel
theorem dX3_prepareState_11 : decode cX3_prepareState 11 = .ok (.getfield 71, 3) := by decide +kernel
theorem dX3_prepareState_14 : decode cX3_prepareState 14 = .ok (.iload_n 1, 1) := by decide +kernel
theorem dX3_prepareState_15 : decode cX3_prepareState 15 = .ok (.iconst 3, 1) := by decide +kernel
theorem dX3_prepareState_16 : decode cX3_prepareState 16 = .ok (.imul, 1) := by decide +kernel
theorem dX3_prepareState_17 : decode cX3_prepareState 17 = .ok (.iload_n 2, 1) := by decide +kernel
theorem dX3_prepareState_18 : decode cX3_prepareState 18 = .ok (.iadd, 1) := by decide +kernel
theorem dX3_prepareState_19 : decode cX3_prepareState 19 = .ok (.iaload, 1) := by decide +kernel
theorem dX3_prepareState_20 : decode cX3_prepareState 20 = .ok (.istore_n 3, 1) := by decide +kernel
theorem dX3_prepareState_21 : decode cX3_prepareState 21 = .ok (.aload_n 0, 1) := by decide +kernel
theorem dX3_prepareState_22 : decode cX3_prepareState 22 = .ok (.getfield 25, 3) := by decide +kernel
theorem dX3_prepareState_25 : decode cX3_prepareState 25 = .ok (.iload_n 1, 1) := by decide +kernel
theorem dX3_prepareState_26 : decode cX3_prepareState 26 = .ok (.iconst 3, 1) := by decide +kernel
theorem dX3_prepareState_27 : decode cX3_prepareState 27 = .ok (.imul, 1) := by decide +kernel
theorem dX3_prepareState_28 : decode cX3_prepareState 28 = .ok (.iload_n 2, 1) := by decide +kernel
theorem dX3_prepareState_29 : decode cX3_prepareState 29 = .ok (.iadd, 1) := by decide +kernel
theorem dX3_prepareState_30 : decode cX3_prepareState 30 = .ok (.iload_n 3, 1) := by decide +kernel
theorem dX3_prepareState_31 : decode cX3_prepareState 31 = .ok (.aload_n 0, 1) := by decide +kernel
theorem dX3_prepareState_32 : decode cX3_prepareState 32 = .ok (.getfield 12, 3) := by decide +kernel
theorem dX3_prepareState_35 : decode cX3_prepareState 35 = .ok (.getfield 49, 3) := by decide +kernel
theorem dX3_prepareState_38 : decode cX3_prepareState 38 = .ok (.if_icmp .ge 7, 3) := by decide +kernel
theorem dX3_prepareState_41 : decode cX3_prepareState 41 = .ok (.iload_n 3, 1) := by decide +kernel
theorem dX3_prepareState_42 : decode cX3_prepareState 42 = .ok (.goto 4, 3) := by decide +kernel
theorem dX3_prepareState_45 : decode cX3_prepareState 45 = .ok (.iload_n 1, 1) := by decide +kernel
theorem dX3_prepareState_46 : decode cX3_prepareState 46 = .ok (.iastore, 1) := by decide +kernel
theorem dX3_prepareState_47 : decode cX3_prepareState 47 = .ok (.iinc 2 1, 3) := by decide +kernel
theorem dX3_prepareState_50 : decode cX3_prepareState 50 = .ok (.goto (-48), 3) := by decide +kernel
theorem dX3_prepareState_53 : decode cX3_prepareState 53 = .ok (.iconst 0, 1) := by decide +kernel
theorem dX3_prepareState_54 : decode cX3_prepareState 54 = .ok (.istore_n 2, 1) := by decide +kernel
theorem dX3_prepareState_55 : decode cX3_prepareState 55 = .ok (.iload_n 2, 1) := by decide +kernel
theorem dX3_prepareState_56 : decode cX3_prepareState 56 = .ok (.aload_n 0, 1) := by decide +kernel
theorem dX3_prepareState_57 : decode cX3_prepareState 57 = .ok (.getfield 12, 3) := by decide +kernel
theorem dX3_prepareState_60 : decode cX3_prepareState 60 = .ok (.getfield 74, 3) := by decide +kernel
theorem dX3_prepareState_63 : decode cX3_prepareState 63 = .ok (.if_icmp .ge 21, 3) := by decide +kernel
theorem dX3_prepareState_66 : decode cX3_prepareState 66 = .ok (.aload_n 0, 1) := by decide +kernel
theorem dX3_prepareState_67 : decode cX3_prepareState 67 = .ok (.getfield 29, 3) := by decide +kernel
theorem dX3_prepareState_70 : decode cX3_prepareState 70 = .ok (.iload_n 2, 1) := by decide +kernel
theorem dX3_prepareState_71 : decode cX3_prepareState 71 = .ok (.bipush 6, 2) := by decide +kernel
theorem dX3_prepareState_73 : decode cX3_prepareState 73 = .ok (.imul, 1) := by decide +kernel
theorem dX3_prepareState_74 : decode cX3_prepareState 74 = .ok (.iload_n 1, 1) := by decide +kernel
theorem dX3_prepareState_75 : decode cX3_prepareState 75 = .ok (.iadd, 1) := by decide +kernel
theorem dX3_prepareState_76 : decode cX3_prepareState 76 = .ok (.iload_n 1, 1) := by decide +kernel
theorem dX3_prepareState_77 : decode cX3_prepareState 77 = .ok (.iastore, 1) := by decide +kernel
theorem dX3_prepareState_78 : decode cX3_prepareState 78 = .ok (.iinc 2 1, 3) := by decide +kernel
theorem dX3_prepareState_81 : decode cX3_prepareState 81 = .ok (.goto (-26), 3) := by decide +kernel
theorem dX3_prepareState_84 : decode cX3_prepareState 84 = .ok (.return_, 1) := by decide +kernel
theorem dX3_addDeed_0 : decode cX3_addDeed 0 = .ok (.aload_n 0, 1) := by decide +kernel
theorem dX3_addDeed_1 : decode cX3_addDeed 1 = .ok (.getfield 12, 3) := by decide +kernel
theorem dX3_addDeed_4 : decode cX3_addDeed 4 = .ok (.getfield 77, 3) := by decide +kernel
theorem dX3_addDeed_7 : decode cX3_addDeed 7 = .ok (.iload_n 2, 1) := by decide +kernel
theorem dX3_addDeed_8 : decode cX3_addDeed 8 = .ok (.iaload, 1) := by decide +kernel
theorem dX3_addDeed_9 : decode cX3_addDeed 9 = .ok (.istore_n 3, 1) := by decide +kernel
theorem dX3_addDeed_10 : decode cX3_addDeed 10 = .ok (.aload_n 0, 1) := by decide +kernel
theorem dX3_addDeed_11 : decode cX3_addDeed 11 = .ok (.getfield 12, 3) := by decide +kernel
theorem dX3_addDeed_14 : decode cX3_addDeed 14 = .ok (.getfield 80, 3) := by decide +kernel
theorem dX3_addDeed_17 : decode cX3_addDeed 17 = .ok (.iload_n 2, 1) := by decide +kernel
theorem dX3_addDeed_18 : decode cX3_addDeed 18 = .ok (.iaload, 1) := by decide +kernel
theorem dX3_addDeed_19 : decode cX3_addDeed 19 = .ok (.istore 4, 2) := by decide +kernel
theorem dX3_addDeed_21 : decode cX3_addDeed 21 = .ok (.iload 4, 2) := by decide +kernel
theorem dX3_addDeed_23 : decode cX3_addDeed 23 = .ok (.aload_n 0, 1) := by decide +kernel
theorem dX3_addDeed_24 : decode cX3_addDeed 24 = .ok (.getfield 12, 3) := by decide +kernel
theorem dX3_addDeed_27 : decode cX3_addDeed 27 = .ok (.getfield 49, 3) := by decide +kernel
theorem dX3_addDeed_30 : decode cX3_addDeed 30 = .ok (.if_icmp .lt 4, 3) := by decide +kernel
theorem dX3_addDeed_33 : decode cX3_addDeed 33 = .ok (.return_, 1) := by decide +kernel
theorem dX3_addDeed_34 : decode cX3_addDeed 34 = .ok (.iconst 0, 1) := by decide +kernel
theorem dX3_addDeed_35 : decode cX3_addDeed 35 = .ok (.istore 5, 2) := by decide +kernel
theorem dX3_addDeed_37 : decode cX3_addDeed 37 = .ok (.iload 5, 2) := by decide +kernel
theorem dX3_addDeed_39 : decode cX3_addDeed 39 = .ok (.aload_n 0, 1) := by decide +kernel
theorem dX3_addDeed_40 : decode cX3_addDeed 40 = .ok (.getfield 12, 3) := by decide +kernel
theorem dX3_addDeed_43 : decode cX3_addDeed 43 = .ok (.getfield 49, 3) := by decide +kernel
theorem dX3_addDeed_46 : decode cX3_addDeed 46 = .ok (.if_icmp .ge 38, 3) := by decide +kernel
theorem dX3_addDeed_49 : decode cX3_addDeed 49 = .ok (.iload_n 1, 1) := by decide +kernel
theorem dX3_addDeed_50 : decode cX3_addDeed 50 = .ok (.bipush 6, 2) := by decide +kernel
theorem dX3_addDeed_52 : decode cX3_addDeed 52 = .ok (.imul, 1) := by decide +kernel
theorem dX3_addDeed_53 : decode cX3_addDeed 53 = .ok (.iload 5, 2) := by decide +kernel
theorem dX3_addDeed_55 : decode cX3_addDeed 55 = .ok (.iadd, 1) := by decide +kernel
theorem dX3_addDeed_56 : decode cX3_addDeed 56 = .ok (.istore 6, 2) := by decide +kernel
theorem dX3_addDeed_58 : decode cX3_addDeed 58 = .ok (.aload_n 0, 1) := by decide +kernel
theorem dX3_addDeed_59 : decode cX3_addDeed 59 = .ok (.getfield 29, 3) := by decide +kernel
theorem dX3_addDeed_62 : decode cX3_addDeed 62 = .ok (.iload 6, 2) := by decide +kernel
theorem dX3_addDeed_64 : decode cX3_addDeed 64 = .ok (.iaload, 1) := by decide +kernel
theorem dX3_addDeed_65 : decode cX3_addDeed 65 = .ok (.iload_n 3, 1) := by decide +kernel
theorem dX3_addDeed_66 : decode cX3_addDeed 66 = .ok (.if_icmp .ne 12, 3) := by decide +kernel
theorem dX3_addDeed_69 : decode cX3_addDeed 69 = .ok (.aload_n 0, 1) := by decide +kernel
theorem dX3_addDeed_70 : decode cX3_addDeed 70 = .ok (.getfield 29, 3) := by decide +kernel
theorem dX3_addDeed_73 : decode cX3_addDeed 73 = .ok (.iload 6, 2) := by decide +kernel
theorem dX3_addDeed_75 : decode cX3_addDeed 75 = .ok (.iload 4, 2) := by decide +kernel
theorem dX3_addDeed_77 : decode cX3_addDeed 77 = .ok (.iastore, 1) := by decide +kernel
theorem dX3_addDeed_78 : decode cX3_addDeed 78 = .ok (.iinc 5 1, 3) := by decide +kernel
theorem dX3_addDeed_81 : decode cX3_addDeed 81 = .ok (.goto (-44), 3) := by decide +kernel
theorem dX3_addDeed_84 : decode cX3_addDeed 84 = .ok (.return_, 1) := by decide +kernel
theorem dX3_rows_0 : decode cX3_rows 0 = .ok (.aload_n 0, 1) := by decide +kernel
theorem dX3_rows_1 : decode cX3_rows 1 = .ok (.getfield 12, 3) := by decide +kernel
theorem dX3_rows_4 : decode cX3_rows 4 = .ok (.getfield 49, 3) := by decide +kernel
theorem dX3_rows_7 : decode cX3_rows 7 = .ok (.ifCond .ne 7, 3) := by decide +kernel
theorem dX3_rows_10 : decode cX3_rows 10 = .ok (.iconst 0, 1) := by decide +kernel
theorem dX3_rows_11 : decode cX3_rows 11 = .ok (.goto 14, 3) := by decide +kernel
theorem dX3_rows_14 : decode cX3_rows 14 = .ok (.getstatic 83, 3) := by decide +kernel
theorem dX3_rows_17 : decode cX3_rows 17 = .ok (.aload_n 0, 1) := by decide +kernel
theorem dX3_rows_18 : decode cX3_rows 18 = .ok (.getfield 12, 3) := by decide +kernel
theorem dX3_rows_21 : decode cX3_rows 21 = .ok (.getfield 86, 3) := by decide +kernel
theorem dX3_rows_24 : decode cX3_rows 24 = .ok (.iaload, 1) := by decide +kernel
theorem dX3_rows_25 : decode cX3_rows 25 = .ok (.ireturn, 1) := by decide +kernel
theorem dX3_howMany_0 : decode cX3_howMany 0 = .ok (.aload_n 0, 1) := by decide +kernel
theorem dX3_howMany_1 : decode cX3_howMany 1 = .ok (.invokevirtual 89, 3) := by decide +kernel
theorem dX3_howMany_4 : decode cX3_howMany 4 = .ok (.istore_n 1, 1) := by decide +kernel
theorem dX3_howMany_5 : decode cX3_howMany 5 = .ok (.iconst 0, 1) := by decide +kernel
theorem dX3_howMany_6 : decode cX3_howMany 6 = .ok (.istore_n 2, 1) := by decide +kernel
theorem dX3_howMany_7 : decode cX3_howMany 7 = .ok (.iconst 0, 1) := by decide +kernel
theorem dX3_howMany_8 : decode cX3_howMany 8 = .ok (.istore_n 3, 1) := by decide +kernel
theorem dX3_howMany_9 : decode cX3_howMany 9 = .ok (.iload_n 3, 1) := by decide +kernel
theorem dX3_howMany_10 : decode cX3_howMany 10 = .ok (.iload_n 1, 1) := by decide +kernel
theorem dX3_howMany_11 : decode cX3_howMany 11 = .ok (.if_icmp .ge 20, 3) := by decide +kernel
theorem dX3_howMany_14 : decode cX3_howMany 14 = .ok (.aload_n 0, 1) := by decide +kernel
theorem dX3_howMany_15 : decode cX3_howMany 15 = .ok (.iload_n 3, 1) := by decide +kernel
theorem dX3_howMany_16 : decode cX3_howMany 16 = .ok (.invokevirtual 92, 3) := by decide +kernel
theorem dX3_howMany_19 : decode cX3_howMany 19 = .ok (.ifCond .eq 6, 3) := by decide +kernel
theorem dX3_howMany_22 : decode cX3_howMany 22 = .ok (.iinc 2 1, 3) := by decide +kernel
theorem dX3_howMany_25 : decode cX3_howMany 25 = .ok (.iinc 3 1, 3) := by decide +kernel
theorem dX3_howMany_28 : decode cX3_howMany 28 = .ok (.goto (-19), 3) := by decide +kernel
theorem dX3_howMany_31 : decode cX3_howMany 31 = .ok (.iload_n 2, 1) := by decide +kernel
theorem dX3_howMany_32 : decode cX3_howMany 32 = .ok (.ireturn, 1) := by decide +kernel
theorem dX3_find_0 : decode cX3_find 0 = .ok (.aload_n 0, 1) := by decide +kernel
theorem dX3_find_1 : decode cX3_find 1 = .ok (.invokevirtual 89, 3) := by decide +kernel
theorem dX3_find_4 : decode cX3_find 4 = .ok (.istore_n 2, 1) := by decide +kernel
theorem dX3_find_5 : decode cX3_find 5 = .ok (.iconst 0, 1) := by decide +kernel
theorem dX3_find_6 : decode cX3_find 6 = .ok (.istore_n 3, 1) := by decide +kernel
theorem dX3_find_7 : decode cX3_find 7 = .ok (.iconst 0, 1) := by decide +kernel
theorem dX3_find_8 : decode cX3_find 8 = .ok (.istore 4, 2) := by decide +kernel
theorem dX3_find_10 : decode cX3_find 10 = .ok (.iload 4, 2) := by decide +kernel
theorem dX3_find_12 : decode cX3_find 12 = .ok (.iload_n 2, 1) := by decide +kernel
theorem dX3_find_13 : decode cX3_find 13 = .ok (.if_icmp .ge 28, 3) := by decide +kernel
theorem dX3_find_16 : decode cX3_find 16 = .ok (.aload_n 0, 1) := by decide +kernel
theorem dX3_find_17 : decode cX3_find 17 = .ok (.iload 4, 2) := by decide +kernel
theorem dX3_find_19 : decode cX3_find 19 = .ok (.invokevirtual 92, 3) := by decide +kernel
theorem dX3_find_22 : decode cX3_find 22 = .ok (.ifCond .eq 13, 3) := by decide +kernel
theorem dX3_find_25 : decode cX3_find 25 = .ok (.iload_n 3, 1) := by decide +kernel
theorem dX3_find_26 : decode cX3_find 26 = .ok (.iload_n 1, 1) := by decide +kernel
theorem dX3_find_27 : decode cX3_find 27 = .ok (.if_icmp .ne 5, 3) := by decide +kernel
theorem dX3_find_30 : decode cX3_find 30 = .ok (.iconst 1, 1) := by decide +kernel
theorem dX3_find_31 : decode cX3_find 31 = .ok (.ireturn, 1) := by decide +kernel
theorem dX3_find_32 : decode cX3_find 32 = .ok (.iinc 3 1, 3) := by decide +kernel
theorem dX3_find_35 : decode cX3_find 35 = .ok (.iinc 4 1, 3) := by decide +kernel
theorem dX3_find_38 : decode cX3_find 38 = .ok (.goto (-28), 3) := by decide +kernel
theorem dX3_find_41 : decode cX3_find 41 = .ok (.iconst 0, 1) := by decide +kernel
theorem dX3_find_42 : decode cX3_find 42 = .ok (.ireturn, 1) := by decide +kernel
theorem dX3_isLife_0 : decode cX3_isLife 0 = .ok (.aload_n 0, 1) := by decide +kernel
theorem dX3_isLife_1 : decode cX3_isLife 1 = .ok (.iload_n 1, 1) := by decide +kernel
theorem dX3_isLife_2 : decode cX3_isLife 2 = .ok (.invokevirtual 96, 3) := by decide +kernel
theorem dX3_isLife_5 : decode cX3_isLife 5 = .ok (.aload_n 0, 1) := by decide +kernel
theorem dX3_isLife_6 : decode cX3_isLife 6 = .ok (.invokevirtual 99, 3) := by decide +kernel
theorem dX3_isLife_9 : decode cX3_isLife 9 = .ok (.ireturn, 1) := by decide +kernel
theorem dX3_giveVerdicts_0 : decode cX3_giveVerdicts 0 = .ok (.iload_n 1, 1) := by decide +kernel
theorem dX3_giveVerdicts_1 : decode cX3_giveVerdicts 1 = .ok (.istore_n 2, 1) := by decide +kernel
theorem dX3_giveVerdicts_2 : decode cX3_giveVerdicts 2 = .ok (.aload_n 0, 1) := by decide +kernel
theorem dX3_giveVerdicts_3 : decode cX3_giveVerdicts 3 = .ok (.getfield 12, 3) := by decide +kernel
theorem dX3_giveVerdicts_6 : decode cX3_giveVerdicts 6 = .ok (.getfield 86, 3) := by decide +kernel
theorem dX3_giveVerdicts_9 : decode cX3_giveVerdicts 9 = .ok (.iconst 1, 1) := by decide +kernel
theorem dX3_giveVerdicts_10 : decode cX3_giveVerdicts 10 = .ok (.isub, 1) := by decide +kernel
theorem dX3_giveVerdicts_11 : decode cX3_giveVerdicts 11 = .ok (.istore_n 3, 1) := by decide +kernel
theorem dX3_giveVerdicts_12 : decode cX3_giveVerdicts 12 = .ok (.iload_n 3, 1) := by decide +kernel
theorem dX3_giveVerdicts_13 : decode cX3_giveVerdicts 13 = .ok (.ifCond .lt 22, 3) := by decide +kernel
theorem dX3_giveVerdicts_16 : decode cX3_giveVerdicts 16 = .ok (.aload_n 0, 1) := by decide +kernel
theorem dX3_giveVerdicts_17 : decode cX3_giveVerdicts 17 = .ok (.getfield 35, 3) := by decide +kernel
theorem dX3_giveVerdicts_20 : decode cX3_giveVerdicts 20 = .ok (.iload_n 3, 1) := by decide +kernel
theorem dX3_giveVerdicts_21 : decode cX3_giveVerdicts 21 = .ok (.iload_n 2, 1) := by decide +kernel
theorem dX3_giveVerdicts_22 : decode cX3_giveVerdicts 22 = .ok (.iconst 3, 1) := by decide +kernel
theorem dX3_giveVerdicts_23 : decode cX3_giveVerdicts 23 = .ok (.irem, 1) := by decide +kernel
theorem dX3_giveVerdicts_24 : decode cX3_giveVerdicts 24 = .ok (.iastore, 1) := by decide +kernel
theorem dX3_giveVerdicts_25 : decode cX3_giveVerdicts 25 = .ok (.iload_n 2, 1) := by decide +kernel
theorem dX3_giveVerdicts_26 : decode cX3_giveVerdicts 26 = .ok (.iconst 3, 1) := by decide +kernel
theorem dX3_giveVerdicts_27 : decode cX3_giveVerdicts 27 = .ok (.idiv, 1) := by decide +kernel
theorem dX3_giveVerdicts_28 : decode cX3_giveVerdicts 28 = .ok (.istore_n 2, 1) := by decide +kernel
theorem dX3_giveVerdicts_29 : decode cX3_giveVerdicts 29 = .ok (.iinc 3 (-1), 3) := by decide +kernel
theorem dX3_giveVerdicts_32 : decode cX3_giveVerdicts 32 = .ok (.goto (-20), 3) := by decide +kernel
theorem dX3_giveVerdicts_35 : decode cX3_giveVerdicts 35 = .ok (.return_, 1) := by decide +kernel
theorem dX3_holds_0 : decode cX3_holds 0 = .ok (.aload_n 0, 1) := by decide +kernel
theorem dX3_holds_1 : decode cX3_holds 1 = .ok (.invokevirtual 103, 3) := by decide +kernel
theorem dX3_holds_4 : decode cX3_holds 4 = .ok (.iconst 0, 1) := by decide +kernel
theorem dX3_holds_5 : decode cX3_holds 5 = .ok (.istore_n 1, 1) := by decide +kernel
theorem dX3_holds_6 : decode cX3_holds 6 = .ok (.iload_n 1, 1) := by decide +kernel
theorem dX3_holds_7 : decode cX3_holds 7 = .ok (.aload_n 0, 1) := by decide +kernel
theorem dX3_holds_8 : decode cX3_holds 8 = .ok (.getfield 12, 3) := by decide +kernel
theorem dX3_holds_11 : decode cX3_holds 11 = .ok (.getfield 86, 3) := by decide +kernel
theorem dX3_holds_14 : decode cX3_holds 14 = .ok (.if_icmp .ge 25, 3) := by decide +kernel
theorem dX3_holds_17 : decode cX3_holds 17 = .ok (.aload_n 0, 1) := by decide +kernel
theorem dX3_holds_18 : decode cX3_holds 18 = .ok (.iload_n 1, 1) := by decide +kernel
theorem dX3_holds_19 : decode cX3_holds 19 = .ok (.invokevirtual 106, 3) := by decide +kernel
theorem dX3_holds_22 : decode cX3_holds 22 = .ok (.aload_n 0, 1) := by decide +kernel
theorem dX3_holds_23 : decode cX3_holds 23 = .ok (.getfield 35, 3) := by decide +kernel
theorem dX3_holds_26 : decode cX3_holds 26 = .ok (.iload_n 1, 1) := by decide +kernel
theorem dX3_holds_27 : decode cX3_holds 27 = .ok (.iaload, 1) := by decide +kernel
theorem dX3_holds_28 : decode cX3_holds 28 = .ok (.if_icmp .eq 5, 3) := by decide +kernel
theorem dX3_holds_31 : decode cX3_holds 31 = .ok (.iconst 0, 1) := by decide +kernel
theorem dX3_holds_32 : decode cX3_holds 32 = .ok (.ireturn, 1) := by decide +kernel
theorem dX3_holds_33 : decode cX3_holds 33 = .ok (.iinc 1 1, 3) := by decide +kernel
theorem dX3_holds_36 : decode cX3_holds 36 = .ok (.goto (-30), 3) := by decide +kernel
theorem dX3_holds_39 : decode cX3_holds 39 = .ok (.iconst 1, 1) := by decide +kernel
theorem dX3_holds_40 : decode cX3_holds 40 = .ok (.ireturn, 1) := by decide +kernel
theorem dX3_live_0 : decode cX3_live 0 = .ok (.aload_n 0, 1) := by decide +kernel
theorem dX3_live_1 : decode cX3_live 1 = .ok (.getfield 29, 3) := by decide +kernel
theorem dX3_live_4 : decode cX3_live 4 = .ok (.aload_n 0, 1) := by decide +kernel
theorem dX3_live_5 : decode cX3_live 5 = .ok (.getfield 18, 3) := by decide +kernel
theorem dX3_live_8 : decode cX3_live 8 = .ok (.iaload, 1) := by decide +kernel
theorem dX3_live_9 : decode cX3_live 9 = .ok (.istore_n 1, 1) := by decide +kernel
theorem dX3_live_10 : decode cX3_live 10 = .ok (.aload_n 0, 1) := by decide +kernel
theorem dX3_live_11 : decode cX3_live 11 = .ok (.getfield 32, 3) := by decide +kernel
theorem dX3_live_14 : decode cX3_live 14 = .ok (.iconst 0, 1) := by decide +kernel
theorem dX3_live_15 : decode cX3_live 15 = .ok (.iload_n 1, 1) := by decide +kernel
theorem dX3_live_16 : decode cX3_live 16 = .ok (.iastore, 1) := by decide +kernel
theorem dX3_live_17 : decode cX3_live 17 = .ok (.iconst 0, 1) := by decide +kernel
theorem dX3_live_18 : decode cX3_live 18 = .ok (.istore_n 2, 1) := by decide +kernel
theorem dX3_live_19 : decode cX3_live 19 = .ok (.iconst 1, 1) := by decide +kernel
theorem dX3_live_20 : decode cX3_live 20 = .ok (.istore_n 3, 1) := by decide +kernel
theorem dX3_live_21 : decode cX3_live 21 = .ok (.iload_n 3, 1) := by decide +kernel
theorem dX3_live_22 : decode cX3_live 22 = .ok (.aload_n 0, 1) := by decide +kernel
theorem dX3_live_23 : decode cX3_live 23 = .ok (.getfield 12, 3) := by decide +kernel
theorem dX3_live_26 : decode cX3_live 26 = .ok (.getfield 74, 3) := by decide +kernel
theorem dX3_live_29 : decode cX3_live 29 = .ok (.if_icmp .ge 78, 3) := by decide +kernel
theorem dX3_live_32 : decode cX3_live 32 = .ok (.iconst 0, 1) := by decide +kernel
theorem dX3_live_33 : decode cX3_live 33 = .ok (.istore 4, 2) := by decide +kernel
theorem dX3_live_35 : decode cX3_live 35 = .ok (.iload_n 2, 1) := by decide +kernel
theorem dX3_live_36 : decode cX3_live 36 = .ok (.aload_n 0, 1) := by decide +kernel
theorem dX3_live_37 : decode cX3_live 37 = .ok (.getfield 12, 3) := by decide +kernel
theorem dX3_live_40 : decode cX3_live 40 = .ok (.getfield 86, 3) := by decide +kernel
theorem dX3_live_43 : decode cX3_live 43 = .ok (.if_icmp .ge 29, 3) := by decide +kernel
theorem dX3_live_46 : decode cX3_live 46 = .ok (.aload_n 0, 1) := by decide +kernel
theorem dX3_live_47 : decode cX3_live 47 = .ok (.getfield 12, 3) := by decide +kernel
theorem dX3_live_50 : decode cX3_live 50 = .ok (.getfield 110, 3) := by decide +kernel
theorem dX3_live_53 : decode cX3_live 53 = .ok (.iload_n 2, 1) := by decide +kernel
theorem dX3_live_54 : decode cX3_live 54 = .ok (.iaload, 1) := by decide +kernel
theorem dX3_live_55 : decode cX3_live 55 = .ok (.iload_n 3, 1) := by decide +kernel
theorem dX3_live_56 : decode cX3_live 56 = .ok (.iconst 1, 1) := by decide +kernel
theorem dX3_live_57 : decode cX3_live 57 = .ok (.isub, 1) := by decide +kernel
theorem dX3_live_58 : decode cX3_live 58 = .ok (.if_icmp .ne 14, 3) := by decide +kernel
theorem dX3_live_61 : decode cX3_live 61 = .ok (.aload_n 0, 1) := by decide +kernel
theorem dX3_live_62 : decode cX3_live 62 = .ok (.getfield 35, 3) := by decide +kernel
theorem dX3_live_65 : decode cX3_live 65 = .ok (.iload_n 2, 1) := by decide +kernel
theorem dX3_live_66 : decode cX3_live 66 = .ok (.iaload, 1) := by decide +kernel
theorem dX3_live_67 : decode cX3_live 67 = .ok (.istore 4, 2) := by decide +kernel
theorem dX3_live_69 : decode cX3_live 69 = .ok (.iinc 2 1, 3) := by decide +kernel
theorem dX3_live_72 : decode cX3_live 72 = .ok (.aload_n 0, 1) := by decide +kernel
theorem dX3_live_73 : decode cX3_live 73 = .ok (.getfield 29, 3) := by decide +kernel
theorem dX3_live_76 : decode cX3_live 76 = .ok (.iload_n 3, 1) := by decide +kernel
theorem dX3_live_77 : decode cX3_live 77 = .ok (.bipush 6, 2) := by decide +kernel
theorem dX3_live_79 : decode cX3_live 79 = .ok (.imul, 1) := by decide +kernel
theorem dX3_live_80 : decode cX3_live 80 = .ok (.aload_n 0, 1) := by decide +kernel
theorem dX3_live_81 : decode cX3_live 81 = .ok (.getfield 25, 3) := by decide +kernel
theorem dX3_live_84 : decode cX3_live 84 = .ok (.iload_n 1, 1) := by decide +kernel
theorem dX3_live_85 : decode cX3_live 85 = .ok (.iconst 3, 1) := by decide +kernel
theorem dX3_live_86 : decode cX3_live 86 = .ok (.imul, 1) := by decide +kernel
theorem dX3_live_87 : decode cX3_live 87 = .ok (.iload 4, 2) := by decide +kernel
theorem dX3_live_89 : decode cX3_live 89 = .ok (.iadd, 1) := by decide +kernel
theorem dX3_live_90 : decode cX3_live 90 = .ok (.iaload, 1) := by decide +kernel
theorem dX3_live_91 : decode cX3_live 91 = .ok (.iadd, 1) := by decide +kernel
theorem dX3_live_92 : decode cX3_live 92 = .ok (.iaload, 1) := by decide +kernel
theorem dX3_live_93 : decode cX3_live 93 = .ok (.istore_n 1, 1) := by decide +kernel
theorem dX3_live_94 : decode cX3_live 94 = .ok (.aload_n 0, 1) := by decide +kernel
theorem dX3_live_95 : decode cX3_live 95 = .ok (.getfield 32, 3) := by decide +kernel
theorem dX3_live_98 : decode cX3_live 98 = .ok (.iload_n 3, 1) := by decide +kernel
theorem dX3_live_99 : decode cX3_live 99 = .ok (.iload_n 1, 1) := by decide +kernel
theorem dX3_live_100 : decode cX3_live 100 = .ok (.iastore, 1) := by decide +kernel
theorem dX3_live_101 : decode cX3_live 101 = .ok (.iinc 3 1, 3) := by decide +kernel
theorem dX3_live_104 : decode cX3_live 104 = .ok (.goto (-83), 3) := by decide +kernel
theorem dX3_live_107 : decode cX3_live 107 = .ok (.return_, 1) := by decide +kernel
theorem dX3_juryWord_0 : decode cX3_juryWord 0 = .ok (.iconst 0, 1) := by decide +kernel
theorem dX3_juryWord_1 : decode cX3_juryWord 1 = .ok (.istore_n 2, 1) := by decide +kernel
theorem dX3_juryWord_2 : decode cX3_juryWord 2 = .ok (.iconst 0, 1) := by decide +kernel
theorem dX3_juryWord_3 : decode cX3_juryWord 3 = .ok (.istore_n 3, 1) := by decide +kernel
theorem dX3_juryWord_4 : decode cX3_juryWord 4 = .ok (.aload_n 0, 1) := by decide +kernel
theorem dX3_juryWord_5 : decode cX3_juryWord 5 = .ok (.getfield 12, 3) := by decide +kernel
theorem dX3_juryWord_8 : decode cX3_juryWord 8 = .ok (.getfield 113, 3) := by decide +kernel
theorem dX3_juryWord_11 : decode cX3_juryWord 11 = .ok (.iload_n 1, 1) := by decide +kernel
theorem dX3_juryWord_12 : decode cX3_juryWord 12 = .ok (.iaload, 1) := by decide +kernel
theorem dX3_juryWord_13 : decode cX3_juryWord 13 = .ok (.istore 4, 2) := by decide +kernel
theorem dX3_juryWord_15 : decode cX3_juryWord 15 = .ok (.iload 4, 2) := by decide +kernel
theorem dX3_juryWord_17 : decode cX3_juryWord 17 = .ok (.aload_n 0, 1) := by decide +kernel
theorem dX3_juryWord_18 : decode cX3_juryWord 18 = .ok (.getfield 12, 3) := by decide +kernel
theorem dX3_juryWord_21 : decode cX3_juryWord 21 = .ok (.getfield 116, 3) := by decide +kernel
theorem dX3_juryWord_24 : decode cX3_juryWord 24 = .ok (.iload_n 1, 1) := by decide +kernel
theorem dX3_juryWord_25 : decode cX3_juryWord 25 = .ok (.iaload, 1) := by decide +kernel
theorem dX3_juryWord_26 : decode cX3_juryWord 26 = .ok (.if_icmp .gt 47, 3) := by decide +kernel
theorem dX3_juryWord_29 : decode cX3_juryWord 29 = .ok (.aload_n 0, 1) := by decide +kernel
theorem dX3_juryWord_30 : decode cX3_juryWord 30 = .ok (.getfield 32, 3) := by decide +kernel
theorem dX3_juryWord_33 : decode cX3_juryWord 33 = .ok (.iload 4, 2) := by decide +kernel
theorem dX3_juryWord_35 : decode cX3_juryWord 35 = .ok (.iaload, 1) := by decide +kernel
theorem dX3_juryWord_36 : decode cX3_juryWord 36 = .ok (.istore 5, 2) := by decide +kernel
theorem dX3_juryWord_38 : decode cX3_juryWord 38 = .ok (.aload_n 0, 1) := by decide +kernel
theorem dX3_juryWord_39 : decode cX3_juryWord 39 = .ok (.getfield 12, 3) := by decide +kernel
theorem dX3_juryWord_42 : decode cX3_juryWord 42 = .ok (.getfield 119, 3) := by decide +kernel
theorem dX3_juryWord_45 : decode cX3_juryWord 45 = .ok (.iload 5, 2) := by decide +kernel
theorem dX3_juryWord_47 : decode cX3_juryWord 47 = .ok (.iaload, 1) := by decide +kernel
theorem dX3_juryWord_48 : decode cX3_juryWord 48 = .ok (.ifCond .ne 19, 3) := by decide +kernel
theorem dX3_juryWord_51 : decode cX3_juryWord 51 = .ok (.iinc 2 1, 3) := by decide +kernel
theorem dX3_juryWord_54 : decode cX3_juryWord 54 = .ok (.iload_n 3, 1) := by decide +kernel
theorem dX3_juryWord_55 : decode cX3_juryWord 55 = .ok (.aload_n 0, 1) := by decide +kernel
theorem dX3_juryWord_56 : decode cX3_juryWord 56 = .ok (.getfield 12, 3) := by decide +kernel
theorem dX3_juryWord_59 : decode cX3_juryWord 59 = .ok (.getfield 122, 3) := by decide +kernel
theorem dX3_juryWord_62 : decode cX3_juryWord 62 = .ok (.iload 5, 2) := by decide +kernel
theorem dX3_juryWord_64 : decode cX3_juryWord 64 = .ok (.iaload, 1) := by decide +kernel
theorem dX3_juryWord_65 : decode cX3_juryWord 65 = .ok (.iadd, 1) := by decide +kernel
theorem dX3_juryWord_66 : decode cX3_juryWord 66 = .ok (.istore_n 3, 1) := by decide +kernel
theorem dX3_juryWord_67 : decode cX3_juryWord 67 = .ok (.iinc 4 1, 3) := by decide +kernel
theorem dX3_juryWord_70 : decode cX3_juryWord 70 = .ok (.goto (-55), 3) := by decide +kernel
theorem dX3_juryWord_73 : decode cX3_juryWord 73 = .ok (.iload_n 2, 1) := by decide +kernel
theorem dX3_juryWord_74 : decode cX3_juryWord 74 = .ok (.aload_n 0, 1) := by decide +kernel
theorem dX3_juryWord_75 : decode cX3_juryWord 75 = .ok (.getfield 22, 3) := by decide +kernel
theorem dX3_juryWord_78 : decode cX3_juryWord 78 = .ok (.if_icmp .ge 5, 3) := by decide +kernel
theorem dX3_juryWord_81 : decode cX3_juryWord 81 = .ok (.iconst 0, 1) := by decide +kernel
theorem dX3_juryWord_82 : decode cX3_juryWord 82 = .ok (.ireturn, 1) := by decide +kernel
theorem dX3_juryWord_83 : decode cX3_juryWord 83 = .ok (.iload_n 3, 1) := by decide +kernel
theorem dX3_juryWord_84 : decode cX3_juryWord 84 = .ok (.ifCond .lt 7, 3) := by decide +kernel
theorem dX3_juryWord_87 : decode cX3_juryWord 87 = .ok (.iconst 2, 1) := by decide +kernel
theorem dX3_juryWord_88 : decode cX3_juryWord 88 = .ok (.goto 4, 3) := by decide +kernel
theorem dX3_juryWord_91 : decode cX3_juryWord 91 = .ok (.iconst 1, 1) := by decide +kernel
theorem dX3_juryWord_92 : decode cX3_juryWord 92 = .ok (.ireturn, 1) := by decide +kernel
theorem dX3_sureVerdict_0 : decode cX3_sureVerdict 0 = .ok (.aload_n 0, 1) := by decide +kernel
theorem dX3_sureVerdict_1 : decode cX3_sureVerdict 1 = .ok (.invokevirtual 89, 3) := by decide +kernel
theorem dX3_sureVerdict_4 : decode cX3_sureVerdict 4 = .ok (.istore_n 2, 1) := by decide +kernel
theorem dX3_sureVerdict_5 : decode cX3_sureVerdict 5 = .ok (.bipush (-9), 2) := by decide +kernel
theorem dX3_sureVerdict_7 : decode cX3_sureVerdict 7 = .ok (.istore_n 3, 1) := by decide +kernel
theorem dX3_sureVerdict_8 : decode cX3_sureVerdict 8 = .ok (.iconst 0, 1) := by decide +kernel
theorem dX3_sureVerdict_9 : decode cX3_sureVerdict 9 = .ok (.istore 4, 2) := by decide +kernel
theorem dX3_sureVerdict_11 : decode cX3_sureVerdict 11 = .ok (.iload 4, 2) := by decide +kernel
theorem dX3_sureVerdict_13 : decode cX3_sureVerdict 13 = .ok (.iload_n 2, 1) := by decide +kernel
theorem dX3_sureVerdict_14 : decode cX3_sureVerdict 14 = .ok (.if_icmp .ge 44, 3) := by decide +kernel
theorem dX3_sureVerdict_17 : decode cX3_sureVerdict 17 = .ok (.aload_n 0, 1) := by decide +kernel
theorem dX3_sureVerdict_18 : decode cX3_sureVerdict 18 = .ok (.iload 4, 2) := by decide +kernel
theorem dX3_sureVerdict_20 : decode cX3_sureVerdict 20 = .ok (.invokevirtual 92, 3) := by decide +kernel
theorem dX3_sureVerdict_23 : decode cX3_sureVerdict 23 = .ok (.ifCond .eq 29, 3) := by decide +kernel
theorem dX3_sureVerdict_26 : decode cX3_sureVerdict 26 = .ok (.iload_n 3, 1) := by decide +kernel
theorem dX3_sureVerdict_27 : decode cX3_sureVerdict 27 = .ok (.bipush (-9), 2) := by decide +kernel
theorem dX3_sureVerdict_29 : decode cX3_sureVerdict 29 = .ok (.if_icmp .eq 16, 3) := by decide +kernel
theorem dX3_sureVerdict_32 : decode cX3_sureVerdict 32 = .ok (.iload_n 3, 1) := by decide +kernel
theorem dX3_sureVerdict_33 : decode cX3_sureVerdict 33 = .ok (.aload_n 0, 1) := by decide +kernel
theorem dX3_sureVerdict_34 : decode cX3_sureVerdict 34 = .ok (.getfield 35, 3) := by decide +kernel
theorem dX3_sureVerdict_37 : decode cX3_sureVerdict 37 = .ok (.iload_n 1, 1) := by decide +kernel
theorem dX3_sureVerdict_38 : decode cX3_sureVerdict 38 = .ok (.iaload, 1) := by decide +kernel
theorem dX3_sureVerdict_39 : decode cX3_sureVerdict 39 = .ok (.if_icmp .eq 6, 3) := by decide +kernel
theorem dX3_sureVerdict_42 : decode cX3_sureVerdict 42 = .ok (.bipush (-5), 2) := by decide +kernel
theorem dX3_sureVerdict_44 : decode cX3_sureVerdict 44 = .ok (.ireturn, 1) := by decide +kernel
theorem dX3_sureVerdict_45 : decode cX3_sureVerdict 45 = .ok (.aload_n 0, 1) := by decide +kernel
theorem dX3_sureVerdict_46 : decode cX3_sureVerdict 46 = .ok (.getfield 35, 3) := by decide +kernel
theorem dX3_sureVerdict_49 : decode cX3_sureVerdict 49 = .ok (.iload_n 1, 1) := by decide +kernel
theorem dX3_sureVerdict_50 : decode cX3_sureVerdict 50 = .ok (.iaload, 1) := by decide +kernel
theorem dX3_sureVerdict_51 : decode cX3_sureVerdict 51 = .ok (.istore_n 3, 1) := by decide +kernel
theorem dX3_sureVerdict_52 : decode cX3_sureVerdict 52 = .ok (.iinc 4 1, 3) := by decide +kernel
theorem dX3_sureVerdict_55 : decode cX3_sureVerdict 55 = .ok (.goto (-44), 3) := by decide +kernel
theorem dX3_sureVerdict_58 : decode cX3_sureVerdict 58 = .ok (.iload_n 3, 1) := by decide +kernel
theorem dX3_sureVerdict_59 : decode cX3_sureVerdict 59 = .ok (.ireturn, 1) := by decide +kernel
theorem dX3_surelyAcquitted_0 : decode cX3_surelyAcquitted 0 = .ok (.aload_n 0, 1) := by decide +kernel
theorem dX3_surelyAcquitted_1 : decode cX3_surelyAcquitted 1 = .ok (.iload_n 1, 1) := by decide +kernel
theorem dX3_surelyAcquitted_2 : decode cX3_surelyAcquitted 2 = .ok (.iconst 1, 1) := by decide +kernel
theorem dX3_surelyAcquitted_3 : decode cX3_surelyAcquitted 3 = .ok (.invokevirtual 125, 3) := by decide +kernel
theorem dX3_surelyAcquitted_6 : decode cX3_surelyAcquitted 6 = .ok (.ifCond .eq 16, 3) := by decide +kernel
theorem dX3_surelyAcquitted_9 : decode cX3_surelyAcquitted 9 = .ok (.aload_n 0, 1) := by decide +kernel
theorem dX3_surelyAcquitted_10 : decode cX3_surelyAcquitted 10 = .ok (.iload_n 1, 1) := by decide +kernel
theorem dX3_surelyAcquitted_11 : decode cX3_surelyAcquitted 11 = .ok (.iconst 0, 1) := by decide +kernel
theorem dX3_surelyAcquitted_12 : decode cX3_surelyAcquitted 12 = .ok (.invokevirtual 125, 3) := by decide +kernel
theorem dX3_surelyAcquitted_15 : decode cX3_surelyAcquitted 15 = .ok (.ifCond .ne 7, 3) := by decide +kernel
theorem dX3_surelyAcquitted_18 : decode cX3_surelyAcquitted 18 = .ok (.iconst 1, 1) := by decide +kernel
theorem dX3_surelyAcquitted_19 : decode cX3_surelyAcquitted 19 = .ok (.goto 4, 3) := by decide +kernel
theorem dX3_surelyAcquitted_22 : decode cX3_surelyAcquitted 22 = .ok (.iconst 0, 1) := by decide +kernel
theorem dX3_surelyAcquitted_23 : decode cX3_surelyAcquitted 23 = .ok (.ireturn, 1) := by decide +kernel
theorem dX3_someLife_0 : decode cX3_someLife 0 = .ok (.aload_n 0, 1) := by decide +kernel
theorem dX3_someLife_1 : decode cX3_someLife 1 = .ok (.invokevirtual 89, 3) := by decide +kernel
theorem dX3_someLife_4 : decode cX3_someLife 4 = .ok (.istore_n 3, 1) := by decide +kernel
theorem dX3_someLife_5 : decode cX3_someLife 5 = .ok (.iconst 0, 1) := by decide +kernel
theorem dX3_someLife_6 : decode cX3_someLife 6 = .ok (.istore 4, 2) := by decide +kernel
theorem dX3_someLife_8 : decode cX3_someLife 8 = .ok (.iload 4, 2) := by decide +kernel
theorem dX3_someLife_10 : decode cX3_someLife 10 = .ok (.iload_n 3, 1) := by decide +kernel
theorem dX3_someLife_11 : decode cX3_someLife 11 = .ok (.if_icmp .ge 43, 3) := by decide +kernel
theorem dX3_someLife_14 : decode cX3_someLife 14 = .ok (.aload_n 0, 1) := by decide +kernel
theorem dX3_someLife_15 : decode cX3_someLife 15 = .ok (.iload 4, 2) := by decide +kernel
theorem dX3_someLife_17 : decode cX3_someLife 17 = .ok (.invokevirtual 96, 3) := by decide +kernel
theorem dX3_someLife_20 : decode cX3_someLife 20 = .ok (.aload_n 0, 1) := by decide +kernel
theorem dX3_someLife_21 : decode cX3_someLife 21 = .ok (.getfield 35, 3) := by decide +kernel
theorem dX3_someLife_24 : decode cX3_someLife 24 = .ok (.iload_n 1, 1) := by decide +kernel
theorem dX3_someLife_25 : decode cX3_someLife 25 = .ok (.iaload, 1) := by decide +kernel
theorem dX3_someLife_26 : decode cX3_someLife 26 = .ok (.iconst 2, 1) := by decide +kernel
theorem dX3_someLife_27 : decode cX3_someLife 27 = .ok (.if_icmp .ne 7, 3) := by decide +kernel
theorem dX3_someLife_30 : decode cX3_someLife 30 = .ok (.iconst 1, 1) := by decide +kernel
theorem dX3_someLife_31 : decode cX3_someLife 31 = .ok (.goto 4, 3) := by decide +kernel
theorem dX3_someLife_34 : decode cX3_someLife 34 = .ok (.iconst 0, 1) := by decide +kernel
theorem dX3_someLife_35 : decode cX3_someLife 35 = .ok (.iload_n 2, 1) := by decide +kernel
theorem dX3_someLife_36 : decode cX3_someLife 36 = .ok (.if_icmp .ne 12, 3) := by decide +kernel
theorem dX3_someLife_39 : decode cX3_someLife 39 = .ok (.aload_n 0, 1) := by decide +kernel
theorem dX3_someLife_40 : decode cX3_someLife 40 = .ok (.invokevirtual 99, 3) := by decide +kernel
theorem dX3_someLife_43 : decode cX3_someLife 43 = .ok (.ifCond .eq 5, 3) := by decide +kernel
theorem dX3_someLife_46 : decode cX3_someLife 46 = .ok (.iconst 1, 1) := by decide +kernel
theorem dX3_someLife_47 : decode cX3_someLife 47 = .ok (.ireturn, 1) := by decide +kernel
theorem dX3_someLife_48 : decode cX3_someLife 48 = .ok (.iinc 4 1, 3) := by decide +kernel
theorem dX3_someLife_51 : decode cX3_someLife 51 = .ok (.goto (-43), 3) := by decide +kernel
theorem dX3_someLife_54 : decode cX3_someLife 54 = .ok (.iconst 0, 1) := by decide +kernel
theorem dX3_someLife_55 : decode cX3_someLife 55 = .ok (.ireturn, 1) := by decide +kernel
theorem dX3_ringPart_0 : decode cX3_ringPart 0 = .ok (.aload_n 0, 1) := by decide +kernel
theorem dX3_ringPart_1 : decode cX3_ringPart 1 = .ok (.invokevirtual 89, 3) := by decide +kernel
theorem dX3_ringPart_4 : decode cX3_ringPart 4 = .ok (.istore_n 2, 1) := by decide +kernel
theorem dX3_ringPart_5 : decode cX3_ringPart 5 = .ok (.iconst 0, 1) := by decide +kernel
theorem dX3_ringPart_6 : decode cX3_ringPart 6 = .ok (.istore_n 3, 1) := by decide +kernel
theorem dX3_ringPart_7 : decode cX3_ringPart 7 = .ok (.iload_n 3, 1) := by decide +kernel
theorem dX3_ringPart_8 : decode cX3_ringPart 8 = .ok (.iload_n 2, 1) := by decide +kernel
theorem dX3_ringPart_9 : decode cX3_ringPart 9 = .ok (.if_icmp .ge 16, 3) := by decide +kernel
theorem dX3_ringPart_12 : decode cX3_ringPart 12 = .ok (.aload_n 0, 1) := by decide +kernel
theorem dX3_ringPart_13 : decode cX3_ringPart 13 = .ok (.getfield 38, 3) := by decide +kernel
theorem dX3_ringPart_16 : decode cX3_ringPart 16 = .ok (.iload_n 3, 1) := by decide +kernel
theorem dX3_ringPart_17 : decode cX3_ringPart 17 = .ok (.iconst (-1), 1) := by decide +kernel
theorem dX3_ringPart_18 : decode cX3_ringPart 18 = .ok (.iastore, 1) := by decide +kernel
theorem dX3_ringPart_19 : decode cX3_ringPart 19 = .ok (.iinc 3 1, 3) := by decide +kernel
theorem dX3_ringPart_22 : decode cX3_ringPart 22 = .ok (.goto (-15), 3) := by decide +kernel
theorem dX3_ringPart_25 : decode cX3_ringPart 25 = .ok (.iconst 0, 1) := by decide +kernel
theorem dX3_ringPart_26 : decode cX3_ringPart 26 = .ok (.istore_n 3, 1) := by decide +kernel
theorem dX3_ringPart_27 : decode cX3_ringPart 27 = .ok (.iconst 0, 1) := by decide +kernel
theorem dX3_ringPart_28 : decode cX3_ringPart 28 = .ok (.istore 4, 2) := by decide +kernel
theorem dX3_ringPart_30 : decode cX3_ringPart 30 = .ok (.iload 4, 2) := by decide +kernel
theorem dX3_ringPart_32 : decode cX3_ringPart 32 = .ok (.iload_n 2, 1) := by decide +kernel
theorem dX3_ringPart_33 : decode cX3_ringPart 33 = .ok (.if_icmp .gt 60, 3) := by decide +kernel
theorem dX3_ringPart_36 : decode cX3_ringPart 36 = .ok (.iload_n 3, 1) := by decide +kernel
theorem dX3_ringPart_37 : decode cX3_ringPart 37 = .ok (.iload_n 2, 1) := by decide +kernel
theorem dX3_ringPart_38 : decode cX3_ringPart 38 = .ok (.if_icmp .ge 55, 3) := by decide +kernel
theorem dX3_ringPart_41 : decode cX3_ringPart 41 = .ok (.aload_n 0, 1) := by decide +kernel
theorem dX3_ringPart_42 : decode cX3_ringPart 42 = .ok (.getfield 38, 3) := by decide +kernel
theorem dX3_ringPart_45 : decode cX3_ringPart 45 = .ok (.iload_n 3, 1) := by decide +kernel
theorem dX3_ringPart_46 : decode cX3_ringPart 46 = .ok (.iaload, 1) := by decide +kernel
theorem dX3_ringPart_47 : decode cX3_ringPart 47 = .ok (.ifCond .lt 26, 3) := by decide +kernel
theorem dX3_ringPart_50 : decode cX3_ringPart 50 = .ok (.iload_n 1, 1) := by decide +kernel
theorem dX3_ringPart_51 : decode cX3_ringPart 51 = .ok (.ifCond .ne 12, 3) := by decide +kernel
theorem dX3_ringPart_54 : decode cX3_ringPart 54 = .ok (.aload_n 0, 1) := by decide +kernel
theorem dX3_ringPart_55 : decode cX3_ringPart 55 = .ok (.getfield 38, 3) := by decide +kernel
theorem dX3_ringPart_58 : decode cX3_ringPart 58 = .ok (.iload_n 3, 1) := by decide +kernel
theorem dX3_ringPart_59 : decode cX3_ringPart 59 = .ok (.iaload, 1) := by decide +kernel
theorem dX3_ringPart_60 : decode cX3_ringPart 60 = .ok (.goto 12, 3) := by decide +kernel
theorem dX3_ringPart_63 : decode cX3_ringPart 63 = .ok (.iload 4, 2) := by decide +kernel
theorem dX3_ringPart_65 : decode cX3_ringPart 65 = .ok (.aload_n 0, 1) := by decide +kernel
theorem dX3_ringPart_66 : decode cX3_ringPart 66 = .ok (.getfield 38, 3) := by decide +kernel
theorem dX3_ringPart_69 : decode cX3_ringPart 69 = .ok (.iload_n 3, 1) := by decide +kernel
theorem dX3_ringPart_70 : decode cX3_ringPart 70 = .ok (.iaload, 1) := by decide +kernel
theorem dX3_ringPart_71 : decode cX3_ringPart 71 = .ok (.isub, 1) := by decide +kernel
theorem dX3_ringPart_72 : decode cX3_ringPart 72 = .ok (.ireturn, 1) := by decide +kernel
theorem dX3_ringPart_73 : decode cX3_ringPart 73 = .ok (.aload_n 0, 1) := by decide +kernel
theorem dX3_ringPart_74 : decode cX3_ringPart 74 = .ok (.getfield 38, 3) := by decide +kernel
theorem dX3_ringPart_77 : decode cX3_ringPart 77 = .ok (.iload_n 3, 1) := by decide +kernel
theorem dX3_ringPart_78 : decode cX3_ringPart 78 = .ok (.iload 4, 2) := by decide +kernel
theorem dX3_ringPart_80 : decode cX3_ringPart 80 = .ok (.iastore, 1) := by decide +kernel
theorem dX3_ringPart_81 : decode cX3_ringPart 81 = .ok (.aload_n 0, 1) := by decide +kernel
theorem dX3_ringPart_82 : decode cX3_ringPart 82 = .ok (.iload_n 3, 1) := by decide +kernel
theorem dX3_ringPart_83 : decode cX3_ringPart 83 = .ok (.invokevirtual 129, 3) := by decide +kernel
theorem dX3_ringPart_86 : decode cX3_ringPart 86 = .ok (.istore_n 3, 1) := by decide +kernel
theorem dX3_ringPart_87 : decode cX3_ringPart 87 = .ok (.iinc 4 1, 3) := by decide +kernel
theorem dX3_ringPart_90 : decode cX3_ringPart 90 = .ok (.goto (-60), 3) := by decide +kernel
theorem dX3_ringPart_93 : decode cX3_ringPart 93 = .ok (.iconst 0, 1) := by decide +kernel
theorem dX3_ringPart_94 : decode cX3_ringPart 94 = .ok (.ireturn, 1) := by decide +kernel
theorem dX3_rowOfWords_0 : decode cX3_rowOfWords 0 = .ok (.aload_n 0, 1) := by decide +kernel
theorem dX3_rowOfWords_1 : decode cX3_rowOfWords 1 = .ok (.iload_n 1, 1) := by decide +kernel
theorem dX3_rowOfWords_2 : decode cX3_rowOfWords 2 = .ok (.invokevirtual 96, 3) := by decide +kernel
theorem dX3_rowOfWords_5 : decode cX3_rowOfWords 5 = .ok (.aload_n 0, 1) := by decide +kernel
theorem dX3_rowOfWords_6 : decode cX3_rowOfWords 6 = .ok (.invokevirtual 103, 3) := by decide +kernel
theorem dX3_rowOfWords_9 : decode cX3_rowOfWords 9 = .ok (.iconst 0, 1) := by decide +kernel
theorem dX3_rowOfWords_10 : decode cX3_rowOfWords 10 = .ok (.istore_n 2, 1) := by decide +kernel
theorem dX3_rowOfWords_11 : decode cX3_rowOfWords 11 = .ok (.iconst 0, 1) := by decide +kernel
theorem dX3_rowOfWords_12 : decode cX3_rowOfWords 12 = .ok (.istore_n 3, 1) := by decide +kernel
theorem dX3_rowOfWords_13 : decode cX3_rowOfWords 13 = .ok (.iload_n 3, 1) := by decide +kernel
theorem dX3_rowOfWords_14 : decode cX3_rowOfWords 14 = .ok (.aload_n 0, 1) := by decide +kernel
theorem dX3_rowOfWords_15 : decode cX3_rowOfWords 15 = .ok (.getfield 12, 3) := by decide +kernel
theorem dX3_rowOfWords_18 : decode cX3_rowOfWords 18 = .ok (.getfield 86, 3) := by decide +kernel
theorem dX3_rowOfWords_21 : decode cX3_rowOfWords 21 = .ok (.if_icmp .ge 19, 3) := by decide +kernel
theorem dX3_rowOfWords_24 : decode cX3_rowOfWords 24 = .ok (.iload_n 2, 1) := by decide +kernel
theorem dX3_rowOfWords_25 : decode cX3_rowOfWords 25 = .ok (.iconst 3, 1) := by decide +kernel
theorem dX3_rowOfWords_26 : decode cX3_rowOfWords 26 = .ok (.imul, 1) := by decide +kernel
theorem dX3_rowOfWords_27 : decode cX3_rowOfWords 27 = .ok (.aload_n 0, 1) := by decide +kernel
theorem dX3_rowOfWords_28 : decode cX3_rowOfWords 28 = .ok (.iload_n 3, 1) := by decide +kernel
theorem dX3_rowOfWords_29 : decode cX3_rowOfWords 29 = .ok (.invokevirtual 106, 3) := by decide +kernel
theorem dX3_rowOfWords_32 : decode cX3_rowOfWords 32 = .ok (.iadd, 1) := by decide +kernel
theorem dX3_rowOfWords_33 : decode cX3_rowOfWords 33 = .ok (.istore_n 2, 1) := by decide +kernel
theorem dX3_rowOfWords_34 : decode cX3_rowOfWords 34 = .ok (.iinc 3 1, 3) := by decide +kernel
theorem dX3_rowOfWords_37 : decode cX3_rowOfWords 37 = .ok (.goto (-24), 3) := by decide +kernel
theorem dX3_rowOfWords_40 : decode cX3_rowOfWords 40 = .ok (.iload_n 2, 1) := by decide +kernel
theorem dX3_rowOfWords_41 : decode cX3_rowOfWords 41 = .ok (.ireturn, 1) := by decide +kernel
theorem dX3_seatJury_0 : decode cX3_seatJury 0 = .ok (.iconst 0, 1) := by decide +kernel
theorem dX3_seatJury_1 : decode cX3_seatJury 1 = .ok (.istore_n 2, 1) := by decide +kernel
theorem dX3_seatJury_2 : decode cX3_seatJury 2 = .ok (.aload_n 0, 1) := by decide +kernel
theorem dX3_seatJury_3 : decode cX3_seatJury 3 = .ok (.getfield 12, 3) := by decide +kernel
theorem dX3_seatJury_6 : decode cX3_seatJury 6 = .ok (.getfield 113, 3) := by decide +kernel
theorem dX3_seatJury_9 : decode cX3_seatJury 9 = .ok (.iload_n 1, 1) := by decide +kernel
theorem dX3_seatJury_10 : decode cX3_seatJury 10 = .ok (.iaload, 1) := by decide +kernel
theorem dX3_seatJury_11 : decode cX3_seatJury 11 = .ok (.istore_n 3, 1) := by decide +kernel
theorem dX3_seatJury_12 : decode cX3_seatJury 12 = .ok (.iload_n 3, 1) := by decide +kernel
theorem dX3_seatJury_13 : decode cX3_seatJury 13 = .ok (.aload_n 0, 1) := by decide +kernel
theorem dX3_seatJury_14 : decode cX3_seatJury 14 = .ok (.getfield 12, 3) := by decide +kernel
theorem dX3_seatJury_17 : decode cX3_seatJury 17 = .ok (.getfield 116, 3) := by decide +kernel
theorem dX3_seatJury_20 : decode cX3_seatJury 20 = .ok (.iload_n 1, 1) := by decide +kernel
theorem dX3_seatJury_21 : decode cX3_seatJury 21 = .ok (.iaload, 1) := by decide +kernel
theorem dX3_seatJury_22 : decode cX3_seatJury 22 = .ok (.if_icmp .gt 102, 3) := by decide +kernel
theorem dX3_seatJury_25 : decode cX3_seatJury 25 = .ok (.aload_n 0, 1) := by decide +kernel
theorem dX3_seatJury_26 : decode cX3_seatJury 26 = .ok (.getfield 32, 3) := by decide +kernel
theorem dX3_seatJury_29 : decode cX3_seatJury 29 = .ok (.iload_n 3, 1) := by decide +kernel
theorem dX3_seatJury_30 : decode cX3_seatJury 30 = .ok (.iaload, 1) := by decide +kernel
theorem dX3_seatJury_31 : decode cX3_seatJury 31 = .ok (.istore 4, 2) := by decide +kernel
theorem dX3_seatJury_33 : decode cX3_seatJury 33 = .ok (.aload_n 0, 1) := by decide +kernel
theorem dX3_seatJury_34 : decode cX3_seatJury 34 = .ok (.getfield 12, 3) := by decide +kernel
theorem dX3_seatJury_37 : decode cX3_seatJury 37 = .ok (.getfield 119, 3) := by decide +kernel
theorem dX3_seatJury_40 : decode cX3_seatJury 40 = .ok (.iload 4, 2) := by decide +kernel
theorem dX3_seatJury_42 : decode cX3_seatJury 42 = .ok (.iaload, 1) := by decide +kernel
theorem dX3_seatJury_43 : decode cX3_seatJury 43 = .ok (.ifCond .ne 75, 3) := by decide +kernel
theorem dX3_seatJury_46 : decode cX3_seatJury 46 = .ok (.iload_n 2, 1) := by decide +kernel
theorem dX3_seatJury_47 : decode cX3_seatJury 47 = .ok (.istore 5, 2) := by decide +kernel
theorem dX3_seatJury_49 : decode cX3_seatJury 49 = .ok (.iload 5, 2) := by decide +kernel
theorem dX3_seatJury_51 : decode cX3_seatJury 51 = .ok (.ifCond .le 47, 3) := by decide +kernel
theorem dX3_seatJury_54 : decode cX3_seatJury 54 = .ok (.aload_n 0, 1) := by decide +kernel
theorem dX3_seatJury_55 : decode cX3_seatJury 55 = .ok (.getfield 41, 3) := by decide +kernel
theorem dX3_seatJury_58 : decode cX3_seatJury 58 = .ok (.iload 5, 2) := by decide +kernel
theorem dX3_seatJury_60 : decode cX3_seatJury 60 = .ok (.iconst 1, 1) := by decide +kernel
theorem dX3_seatJury_61 : decode cX3_seatJury 61 = .ok (.isub, 1) := by decide +kernel
theorem dX3_seatJury_62 : decode cX3_seatJury 62 = .ok (.iaload, 1) := by decide +kernel
theorem dX3_seatJury_63 : decode cX3_seatJury 63 = .ok (.aload_n 0, 1) := by decide +kernel
theorem dX3_seatJury_64 : decode cX3_seatJury 64 = .ok (.getfield 12, 3) := by decide +kernel
theorem dX3_seatJury_67 : decode cX3_seatJury 67 = .ok (.getfield 122, 3) := by decide +kernel
theorem dX3_seatJury_70 : decode cX3_seatJury 70 = .ok (.iload 4, 2) := by decide +kernel
theorem dX3_seatJury_72 : decode cX3_seatJury 72 = .ok (.iaload, 1) := by decide +kernel
theorem dX3_seatJury_73 : decode cX3_seatJury 73 = .ok (.if_icmp .le 25, 3) := by decide +kernel
theorem dX3_seatJury_76 : decode cX3_seatJury 76 = .ok (.aload_n 0, 1) := by decide +kernel
theorem dX3_seatJury_77 : decode cX3_seatJury 77 = .ok (.getfield 41, 3) := by decide +kernel
theorem dX3_seatJury_80 : decode cX3_seatJury 80 = .ok (.iload 5, 2) := by decide +kernel
theorem dX3_seatJury_82 : decode cX3_seatJury 82 = .ok (.aload_n 0, 1) := by decide +kernel
theorem dX3_seatJury_83 : decode cX3_seatJury 83 = .ok (.getfield 41, 3) := by decide +kernel
theorem dX3_seatJury_86 : decode cX3_seatJury 86 = .ok (.iload 5, 2) := by decide +kernel
theorem dX3_seatJury_88 : decode cX3_seatJury 88 = .ok (.iconst 1, 1) := by decide +kernel
theorem dX3_seatJury_89 : decode cX3_seatJury 89 = .ok (.isub, 1) := by decide +kernel
theorem dX3_seatJury_90 : decode cX3_seatJury 90 = .ok (.iaload, 1) := by decide +kernel
theorem dX3_seatJury_91 : decode cX3_seatJury 91 = .ok (.iastore, 1) := by decide +kernel
theorem dX3_seatJury_92 : decode cX3_seatJury 92 = .ok (.iinc 5 (-1), 3) := by decide +kernel
theorem dX3_seatJury_95 : decode cX3_seatJury 95 = .ok (.goto (-46), 3) := by decide +kernel
theorem dX3_seatJury_98 : decode cX3_seatJury 98 = .ok (.aload_n 0, 1) := by decide +kernel
theorem dX3_seatJury_99 : decode cX3_seatJury 99 = .ok (.getfield 41, 3) := by decide +kernel
theorem dX3_seatJury_102 : decode cX3_seatJury 102 = .ok (.iload 5, 2) := by decide +kernel
theorem dX3_seatJury_104 : decode cX3_seatJury 104 = .ok (.aload_n 0, 1) := by decide +kernel
theorem dX3_seatJury_105 : decode cX3_seatJury 105 = .ok (.getfield 12, 3) := by decide +kernel
theorem dX3_seatJury_108 : decode cX3_seatJury 108 = .ok (.getfield 122, 3) := by decide +kernel
theorem dX3_seatJury_111 : decode cX3_seatJury 111 = .ok (.iload 4, 2) := by decide +kernel
theorem dX3_seatJury_113 : decode cX3_seatJury 113 = .ok (.iaload, 1) := by decide +kernel
theorem dX3_seatJury_114 : decode cX3_seatJury 114 = .ok (.iastore, 1) := by decide +kernel
theorem dX3_seatJury_115 : decode cX3_seatJury 115 = .ok (.iinc 2 1, 3) := by decide +kernel
theorem dX3_seatJury_118 : decode cX3_seatJury 118 = .ok (.iinc 3 1, 3) := by decide +kernel
theorem dX3_seatJury_121 : decode cX3_seatJury 121 = .ok (.goto (-109), 3) := by decide +kernel
theorem dX3_seatJury_124 : decode cX3_seatJury 124 = .ok (.iload_n 2, 1) := by decide +kernel
theorem dX3_seatJury_125 : decode cX3_seatJury 125 = .ok (.ireturn, 1) := by decide +kernel
theorem dX3_leanBehindStrikes_0 : decode cX3_leanBehindStrikes 0 = .ok (.iload_n 1, 1) := by decide +kernel
theorem dX3_leanBehindStrikes_1 : decode cX3_leanBehindStrikes 1 = .ok (.iload_n 2, 1) := by decide +kernel
theorem dX3_leanBehindStrikes_2 : decode cX3_leanBehindStrikes 2 = .ok (.isub, 1) := by decide +kernel
theorem dX3_leanBehindStrikes_3 : decode cX3_leanBehindStrikes 3 = .ok (.iconst 2, 1) := by decide +kernel
theorem dX3_leanBehindStrikes_4 : decode cX3_leanBehindStrikes 4 = .ok (.idiv, 1) := by decide +kernel
theorem dX3_leanBehindStrikes_5 : decode cX3_leanBehindStrikes 5 = .ok (.istore_n 3, 1) := by decide +kernel
theorem dX3_leanBehindStrikes_6 : decode cX3_leanBehindStrikes 6 = .ok (.iconst 0, 1) := by decide +kernel
theorem dX3_leanBehindStrikes_7 : decode cX3_leanBehindStrikes 7 = .ok (.istore 4, 2) := by decide +kernel
theorem dX3_leanBehindStrikes_9 : decode cX3_leanBehindStrikes 9 = .ok (.iload_n 3, 1) := by decide +kernel
theorem dX3_leanBehindStrikes_10 : decode cX3_leanBehindStrikes 10 = .ok (.istore 5, 2) := by decide +kernel
theorem dX3_leanBehindStrikes_12 : decode cX3_leanBehindStrikes 12 = .ok (.iload 5, 2) := by decide +kernel
theorem dX3_leanBehindStrikes_14 : decode cX3_leanBehindStrikes 14 = .ok (.iload_n 3, 1) := by decide +kernel
theorem dX3_leanBehindStrikes_15 : decode cX3_leanBehindStrikes 15 = .ok (.iload_n 2, 1) := by decide +kernel
theorem dX3_leanBehindStrikes_16 : decode cX3_leanBehindStrikes 16 = .ok (.iadd, 1) := by decide +kernel
theorem dX3_leanBehindStrikes_17 : decode cX3_leanBehindStrikes 17 = .ok (.if_icmp .ge 27, 3) := by decide +kernel
theorem dX3_leanBehindStrikes_20 : decode cX3_leanBehindStrikes 20 = .ok (.iload 5, 2) := by decide +kernel
theorem dX3_leanBehindStrikes_22 : decode cX3_leanBehindStrikes 22 = .ok (.iload_n 1, 1) := by decide +kernel
theorem dX3_leanBehindStrikes_23 : decode cX3_leanBehindStrikes 23 = .ok (.if_icmp .ge 21, 3) := by decide +kernel
theorem dX3_leanBehindStrikes_26 : decode cX3_leanBehindStrikes 26 = .ok (.iload 4, 2) := by decide +kernel
theorem dX3_leanBehindStrikes_28 : decode cX3_leanBehindStrikes 28 = .ok (.aload_n 0, 1) := by decide +kernel
theorem dX3_leanBehindStrikes_29 : decode cX3_leanBehindStrikes 29 = .ok (.getfield 41, 3) := by decide +kernel
theorem dX3_leanBehindStrikes_32 : decode cX3_leanBehindStrikes 32 = .ok (.iload 5, 2) := by decide +kernel
theorem dX3_leanBehindStrikes_34 : decode cX3_leanBehindStrikes 34 = .ok (.iaload, 1) := by decide +kernel
theorem dX3_leanBehindStrikes_35 : decode cX3_leanBehindStrikes 35 = .ok (.iadd, 1) := by decide +kernel
theorem dX3_leanBehindStrikes_36 : decode cX3_leanBehindStrikes 36 = .ok (.istore 4, 2) := by decide +kernel
theorem dX3_leanBehindStrikes_38 : decode cX3_leanBehindStrikes 38 = .ok (.iinc 5 1, 3) := by decide +kernel
theorem dX3_leanBehindStrikes_41 : decode cX3_leanBehindStrikes 41 = .ok (.goto (-29), 3) := by decide +kernel
theorem dX3_leanBehindStrikes_44 : decode cX3_leanBehindStrikes 44 = .ok (.iload 4, 2) := by decide +kernel
theorem dX3_leanBehindStrikes_46 : decode cX3_leanBehindStrikes 46 = .ok (.ireturn, 1) := by decide +kernel
theorem dX3_reach_0 : decode cX3_reach 0 = .ok (.aload_n 0, 1) := by decide +kernel
theorem dX3_reach_1 : decode cX3_reach 1 = .ok (.getfield 12, 3) := by decide +kernel
theorem dX3_reach_4 : decode cX3_reach 4 = .ok (.getfield 49, 3) := by decide +kernel
theorem dX3_reach_7 : decode cX3_reach 7 = .ok (.ifCond .ne 7, 3) := by decide +kernel
theorem dX3_reach_10 : decode cX3_reach 10 = .ok (.iconst 0, 1) := by decide +kernel
theorem dX3_reach_11 : decode cX3_reach 11 = .ok (.goto 14, 3) := by decide +kernel
theorem dX3_reach_14 : decode cX3_reach 14 = .ok (.iconst 1, 1) := by decide +kernel
theorem dX3_reach_15 : decode cX3_reach 15 = .ok (.aload_n 0, 1) := by decide +kernel
theorem dX3_reach_16 : decode cX3_reach 16 = .ok (.getfield 29, 3) := by decide +kernel
theorem dX3_reach_19 : decode cX3_reach 19 = .ok (.aload_n 0, 1) := by decide +kernel
theorem dX3_reach_20 : decode cX3_reach 20 = .ok (.getfield 18, 3) := by decide +kernel
theorem dX3_reach_23 : decode cX3_reach 23 = .ok (.iaload, 1) := by decide +kernel
theorem dX3_reach_24 : decode cX3_reach 24 = .ok (.ishl, 1) := by decide +kernel
theorem dX3_reach_25 : decode cX3_reach 25 = .ok (.istore_n 2, 1) := by decide +kernel
theorem dX3_reach_26 : decode cX3_reach 26 = .ok (.aload_n 1, 1) := by decide +kernel
theorem dX3_reach_27 : decode cX3_reach 27 = .ok (.iconst 0, 1) := by decide +kernel
theorem dX3_reach_28 : decode cX3_reach 28 = .ok (.iload_n 2, 1) := by decide +kernel
theorem dX3_reach_29 : decode cX3_reach 29 = .ok (.iastore, 1) := by decide +kernel
theorem dX3_reach_30 : decode cX3_reach 30 = .ok (.iconst 0, 1) := by decide +kernel
theorem dX3_reach_31 : decode cX3_reach 31 = .ok (.istore_n 3, 1) := by decide +kernel
theorem dX3_reach_32 : decode cX3_reach 32 = .ok (.iconst 1, 1) := by decide +kernel
theorem dX3_reach_33 : decode cX3_reach 33 = .ok (.istore 4, 2) := by decide +kernel
theorem dX3_reach_35 : decode cX3_reach 35 = .ok (.iload 4, 2) := by decide +kernel
theorem dX3_reach_37 : decode cX3_reach 37 = .ok (.aload_n 0, 1) := by decide +kernel
theorem dX3_reach_38 : decode cX3_reach 38 = .ok (.getfield 12, 3) := by decide +kernel
theorem dX3_reach_41 : decode cX3_reach 41 = .ok (.getfield 74, 3) := by decide +kernel
theorem dX3_reach_44 : decode cX3_reach 44 = .ok (.if_icmp .ge 60, 3) := by decide +kernel
theorem dX3_reach_47 : decode cX3_reach 47 = .ok (.iconst 1, 1) := by decide +kernel
theorem dX3_reach_48 : decode cX3_reach 48 = .ok (.istore 5, 2) := by decide +kernel
theorem dX3_reach_50 : decode cX3_reach 50 = .ok (.iload_n 3, 1) := by decide +kernel
theorem dX3_reach_51 : decode cX3_reach 51 = .ok (.aload_n 0, 1) := by decide +kernel
theorem dX3_reach_52 : decode cX3_reach 52 = .ok (.getfield 12, 3) := by decide +kernel
theorem dX3_reach_55 : decode cX3_reach 55 = .ok (.getfield 86, 3) := by decide +kernel
theorem dX3_reach_58 : decode cX3_reach 58 = .ok (.if_icmp .ge 25, 3) := by decide +kernel
theorem dX3_reach_61 : decode cX3_reach 61 = .ok (.aload_n 0, 1) := by decide +kernel
theorem dX3_reach_62 : decode cX3_reach 62 = .ok (.getfield 12, 3) := by decide +kernel
theorem dX3_reach_65 : decode cX3_reach 65 = .ok (.getfield 110, 3) := by decide +kernel
theorem dX3_reach_68 : decode cX3_reach 68 = .ok (.iload_n 3, 1) := by decide +kernel
theorem dX3_reach_69 : decode cX3_reach 69 = .ok (.iaload, 1) := by decide +kernel
theorem dX3_reach_70 : decode cX3_reach 70 = .ok (.iload 4, 2) := by decide +kernel
theorem dX3_reach_72 : decode cX3_reach 72 = .ok (.iconst 1, 1) := by decide +kernel
theorem dX3_reach_73 : decode cX3_reach 73 = .ok (.isub, 1) := by decide +kernel
theorem dX3_reach_74 : decode cX3_reach 74 = .ok (.if_icmp .ne 9, 3) := by decide +kernel
theorem dX3_reach_77 : decode cX3_reach 77 = .ok (.iconst 3, 1) := by decide +kernel
theorem dX3_reach_78 : decode cX3_reach 78 = .ok (.istore 5, 2) := by decide +kernel
theorem dX3_reach_80 : decode cX3_reach 80 = .ok (.iinc 3 1, 3) := by decide +kernel
theorem dX3_reach_83 : decode cX3_reach 83 = .ok (.aload_n 0, 1) := by decide +kernel
theorem dX3_reach_84 : decode cX3_reach 84 = .ok (.iload_n 2, 1) := by decide +kernel
theorem dX3_reach_85 : decode cX3_reach 85 = .ok (.iload 4, 2) := by decide +kernel
theorem dX3_reach_87 : decode cX3_reach 87 = .ok (.iload 5, 2) := by decide +kernel
theorem dX3_reach_89 : decode cX3_reach 89 = .ok (.invokevirtual 132, 3) := by decide +kernel
theorem dX3_reach_92 : decode cX3_reach 92 = .ok (.istore_n 2, 1) := by decide +kernel
theorem dX3_reach_93 : decode cX3_reach 93 = .ok (.aload_n 1, 1) := by decide +kernel
theorem dX3_reach_94 : decode cX3_reach 94 = .ok (.iload 4, 2) := by decide +kernel
theorem dX3_reach_96 : decode cX3_reach 96 = .ok (.iload_n 2, 1) := by decide +kernel
theorem dX3_reach_97 : decode cX3_reach 97 = .ok (.iastore, 1) := by decide +kernel
theorem dX3_reach_98 : decode cX3_reach 98 = .ok (.iinc 4 1, 3) := by decide +kernel
theorem dX3_reach_101 : decode cX3_reach 101 = .ok (.goto (-66), 3) := by decide +kernel
theorem dX3_reach_104 : decode cX3_reach 104 = .ok (.return_, 1) := by decide +kernel
theorem dX3_reachNext_0 : decode cX3_reachNext 0 = .ok (.iconst 0, 1) := by decide +kernel
theorem dX3_reachNext_1 : decode cX3_reachNext 1 = .ok (.istore 4, 2) := by decide +kernel
theorem dX3_reachNext_3 : decode cX3_reachNext 3 = .ok (.iconst 0, 1) := by decide +kernel
theorem dX3_reachNext_4 : decode cX3_reachNext 4 = .ok (.istore 5, 2) := by decide +kernel
theorem dX3_reachNext_6 : decode cX3_reachNext 6 = .ok (.iload 5, 2) := by decide +kernel
theorem dX3_reachNext_8 : decode cX3_reachNext 8 = .ok (.aload_n 0, 1) := by decide +kernel
theorem dX3_reachNext_9 : decode cX3_reachNext 9 = .ok (.getfield 12, 3) := by decide +kernel
theorem dX3_reachNext_12 : decode cX3_reachNext 12 = .ok (.getfield 49, 3) := by decide +kernel
theorem dX3_reachNext_15 : decode cX3_reachNext 15 = .ok (.if_icmp .ge 63, 3) := by decide +kernel
theorem dX3_reachNext_18 : decode cX3_reachNext 18 = .ok (.iload_n 1, 1) := by decide +kernel
theorem dX3_reachNext_19 : decode cX3_reachNext 19 = .ok (.iload 5, 2) := by decide +kernel
theorem dX3_reachNext_21 : decode cX3_reachNext 21 = .ok (.ishr, 1) := by decide +kernel
theorem dX3_reachNext_22 : decode cX3_reachNext 22 = .ok (.iconst 1, 1) := by decide +kernel
theorem dX3_reachNext_23 : decode cX3_reachNext 23 = .ok (.iand, 1) := by decide +kernel
theorem dX3_reachNext_24 : decode cX3_reachNext 24 = .ok (.iconst 1, 1) := by decide +kernel
theorem dX3_reachNext_25 : decode cX3_reachNext 25 = .ok (.if_icmp .ne 47, 3) := by decide +kernel
theorem dX3_reachNext_28 : decode cX3_reachNext 28 = .ok (.iconst 0, 1) := by decide +kernel
theorem dX3_reachNext_29 : decode cX3_reachNext 29 = .ok (.istore 6, 2) := by decide +kernel
theorem dX3_reachNext_31 : decode cX3_reachNext 31 = .ok (.iload 6, 2) := by decide +kernel
theorem dX3_reachNext_33 : decode cX3_reachNext 33 = .ok (.iload_n 3, 1) := by decide +kernel
theorem dX3_reachNext_34 : decode cX3_reachNext 34 = .ok (.if_icmp .ge 38, 3) := by decide +kernel
theorem dX3_reachNext_37 : decode cX3_reachNext 37 = .ok (.iload 4, 2) := by decide +kernel
theorem dX3_reachNext_39 : decode cX3_reachNext 39 = .ok (.iconst 1, 1) := by decide +kernel
theorem dX3_reachNext_40 : decode cX3_reachNext 40 = .ok (.aload_n 0, 1) := by decide +kernel
theorem dX3_reachNext_41 : decode cX3_reachNext 41 = .ok (.getfield 29, 3) := by decide +kernel
theorem dX3_reachNext_44 : decode cX3_reachNext 44 = .ok (.iload_n 2, 1) := by decide +kernel
theorem dX3_reachNext_45 : decode cX3_reachNext 45 = .ok (.bipush 6, 2) := by decide +kernel
theorem dX3_reachNext_47 : decode cX3_reachNext 47 = .ok (.imul, 1) := by decide +kernel
theorem dX3_reachNext_48 : decode cX3_reachNext 48 = .ok (.aload_n 0, 1) := by decide +kernel
theorem dX3_reachNext_49 : decode cX3_reachNext 49 = .ok (.getfield 25, 3) := by decide +kernel
theorem dX3_reachNext_52 : decode cX3_reachNext 52 = .ok (.iload 5, 2) := by decide +kernel
theorem dX3_reachNext_54 : decode cX3_reachNext 54 = .ok (.iconst 3, 1) := by decide +kernel
theorem dX3_reachNext_55 : decode cX3_reachNext 55 = .ok (.imul, 1) := by decide +kernel
theorem dX3_reachNext_56 : decode cX3_reachNext 56 = .ok (.iload 6, 2) := by decide +kernel
theorem dX3_reachNext_58 : decode cX3_reachNext 58 = .ok (.iadd, 1) := by decide +kernel
theorem dX3_reachNext_59 : decode cX3_reachNext 59 = .ok (.iaload, 1) := by decide +kernel
theorem dX3_reachNext_60 : decode cX3_reachNext 60 = .ok (.iadd, 1) := by decide +kernel
theorem dX3_reachNext_61 : decode cX3_reachNext 61 = .ok (.iaload, 1) := by decide +kernel
theorem dX3_reachNext_62 : decode cX3_reachNext 62 = .ok (.ishl, 1) := by decide +kernel
theorem dX3_reachNext_63 : decode cX3_reachNext 63 = .ok (.ior, 1) := by decide +kernel
theorem dX3_reachNext_64 : decode cX3_reachNext 64 = .ok (.istore 4, 2) := by decide +kernel
theorem dX3_reachNext_66 : decode cX3_reachNext 66 = .ok (.iinc 6 1, 3) := by decide +kernel
theorem dX3_reachNext_69 : decode cX3_reachNext 69 = .ok (.goto (-38), 3) := by decide +kernel
theorem dX3_reachNext_72 : decode cX3_reachNext 72 = .ok (.iinc 5 1, 3) := by decide +kernel
theorem dX3_reachNext_75 : decode cX3_reachNext 75 = .ok (.goto (-69), 3) := by decide +kernel
theorem dX3_reachNext_78 : decode cX3_reachNext 78 = .ok (.iload 4, 2) := by decide +kernel
theorem dX3_reachNext_80 : decode cX3_reachNext 80 = .ok (.ireturn, 1) := by decide +kernel
theorem dX3_saveYear_0 : decode cX3_saveYear 0 = .ok (.iconst 0, 1) := by decide +kernel
theorem dX3_saveYear_1 : decode cX3_saveYear 1 = .ok (.istore_n 3, 1) := by decide +kernel
theorem dX3_saveYear_2 : decode cX3_saveYear 2 = .ok (.iload_n 3, 1) := by decide +kernel
theorem dX3_saveYear_3 : decode cX3_saveYear 3 = .ok (.bipush 6, 2) := by decide +kernel
theorem dX3_saveYear_5 : decode cX3_saveYear 5 = .ok (.if_icmp .ge 23, 3) := by decide +kernel
theorem dX3_saveYear_8 : decode cX3_saveYear 8 = .ok (.aload_n 2, 1) := by decide +kernel
theorem dX3_saveYear_9 : decode cX3_saveYear 9 = .ok (.iload_n 3, 1) := by decide +kernel
theorem dX3_saveYear_10 : decode cX3_saveYear 10 = .ok (.aload_n 0, 1) := by decide +kernel
theorem dX3_saveYear_11 : decode cX3_saveYear 11 = .ok (.getfield 29, 3) := by decide +kernel
theorem dX3_saveYear_14 : decode cX3_saveYear 14 = .ok (.iload_n 1, 1) := by decide +kernel
theorem dX3_saveYear_15 : decode cX3_saveYear 15 = .ok (.bipush 6, 2) := by decide +kernel
theorem dX3_saveYear_17 : decode cX3_saveYear 17 = .ok (.imul, 1) := by decide +kernel
theorem dX3_saveYear_18 : decode cX3_saveYear 18 = .ok (.iload_n 3, 1) := by decide +kernel
theorem dX3_saveYear_19 : decode cX3_saveYear 19 = .ok (.iadd, 1) := by decide +kernel
theorem dX3_saveYear_20 : decode cX3_saveYear 20 = .ok (.iaload, 1) := by decide +kernel
theorem dX3_saveYear_21 : decode cX3_saveYear 21 = .ok (.iastore, 1) := by decide +kernel
theorem dX3_saveYear_22 : decode cX3_saveYear 22 = .ok (.iinc 3 1, 3) := by decide +kernel
theorem dX3_saveYear_25 : decode cX3_saveYear 25 = .ok (.goto (-23), 3) := by decide +kernel
theorem dX3_saveYear_28 : decode cX3_saveYear 28 = .ok (.return_, 1) := by decide +kernel
theorem dX3_restoreYear_0 : decode cX3_restoreYear 0 = .ok (.iconst 0, 1) := by decide +kernel
theorem dX3_restoreYear_1 : decode cX3_restoreYear 1 = .ok (.istore_n 3, 1) := by decide +kernel
theorem dX3_restoreYear_2 : decode cX3_restoreYear 2 = .ok (.iload_n 3, 1) := by decide +kernel
theorem dX3_restoreYear_3 : decode cX3_restoreYear 3 = .ok (.bipush 6, 2) := by decide +kernel
theorem dX3_restoreYear_5 : decode cX3_restoreYear 5 = .ok (.if_icmp .ge 23, 3) := by decide +kernel
theorem dX3_restoreYear_8 : decode cX3_restoreYear 8 = .ok (.aload_n 0, 1) := by decide +kernel
theorem dX3_restoreYear_9 : decode cX3_restoreYear 9 = .ok (.getfield 29, 3) := by decide +kernel
theorem dX3_restoreYear_12 : decode cX3_restoreYear 12 = .ok (.iload_n 1, 1) := by decide +kernel
theorem dX3_restoreYear_13 : decode cX3_restoreYear 13 = .ok (.bipush 6, 2) := by decide +kernel
theorem dX3_restoreYear_15 : decode cX3_restoreYear 15 = .ok (.imul, 1) := by decide +kernel
theorem dX3_restoreYear_16 : decode cX3_restoreYear 16 = .ok (.iload_n 3, 1) := by decide +kernel
theorem dX3_restoreYear_17 : decode cX3_restoreYear 17 = .ok (.iadd, 1) := by decide +kernel
theorem dX3_restoreYear_18 : decode cX3_restoreYear 18 = .ok (.aload_n 2, 1) := by decide +kernel
theorem dX3_restoreYear_19 : decode cX3_restoreYear 19 = .ok (.iload_n 3, 1) := by decide +kernel
theorem dX3_restoreYear_20 : decode cX3_restoreYear 20 = .ok (.iaload, 1) := by decide +kernel
theorem dX3_restoreYear_21 : decode cX3_restoreYear 21 = .ok (.iastore, 1) := by decide +kernel
theorem dX3_restoreYear_22 : decode cX3_restoreYear 22 = .ok (.iinc 3 1, 3) := by decide +kernel
theorem dX3_restoreYear_25 : decode cX3_restoreYear 25 = .ok (.goto (-23), 3) := by decide +kernel
theorem dX3_restoreYear_28 : decode cX3_restoreYear 28 = .ok (.return_, 1) := by decide +kernel
theorem dX4_init_0 : decode cX4_init 0 = .ok (.aload_n 0, 1) := by decide +kernel
theorem dX4_init_1 : decode cX4_init 1 = .ok (.invokespecial 3, 3) := by decide +kernel
theorem dX4_init_4 : decode cX4_init 4 = .ok (.aload_n 0, 1) := by decide +kernel
theorem dX4_init_5 : decode cX4_init 5 = .ok (.iconst 0, 1) := by decide +kernel
theorem dX4_init_6 : decode cX4_init 6 = .ok (.newarray .int, 2) := by decide +kernel
theorem dX4_init_8 : decode cX4_init 8 = .ok (.putfield 9, 3) := by decide +kernel
theorem dX4_init_11 : decode cX4_init 11 = .ok (.aload_n 0, 1) := by decide +kernel
theorem dX4_init_12 : decode cX4_init 12 = .ok (.iconst 0, 1) := by decide +kernel
theorem dX4_init_13 : decode cX4_init 13 = .ok (.putfield 15, 3) := by decide +kernel
theorem dX4_init_16 : decode cX4_init 16 = .ok (.aload_n 0, 1) := by decide +kernel
theorem dX4_init_17 : decode cX4_init 17 = .ok (.iconst 0, 1) := by decide +kernel
theorem dX4_init_18 : decode cX4_init 18 = .ok (.putfield 19, 3) := by decide +kernel
theorem dX4_init_21 : decode cX4_init 21 = .ok (.aload_n 0, 1) := by decide +kernel
theorem dX4_init_22 : decode cX4_init 22 = .ok (.iconst 0, 1) := by decide +kernel
theorem dX4_init_23 : decode cX4_init 23 = .ok (.putfield 22, 3) := by decide +kernel
theorem dX4_init_26 : decode cX4_init 26 = .ok (.aload_n 0, 1) := by decide +kernel
theorem dX4_init_27 : decode cX4_init 27 = .ok (.iconst 0, 1) := by decide +kernel
theorem dX4_init_28 : decode cX4_init 28 = .ok (.putfield 25, 3) := by decide +kernel
theorem dX4_init_31 : decode cX4_init 31 = .ok (.aload_n 0, 1) := by decide +kernel
theorem dX4_init_32 : decode cX4_init 32 = .ok (.iconst 0, 1) := by decide +kernel
theorem dX4_init_33 : decode cX4_init 33 = .ok (.putfield 28, 3) := by decide +kernel
theorem dX4_init_36 : decode cX4_init 36 = .ok (.aload_n 0, 1) := by decide +kernel
theorem dX4_init_37 : decode cX4_init 37 = .ok (.iconst 0, 1) := by decide +kernel
theorem dX4_init_38 : decode cX4_init 38 = .ok (.putfield 31, 3) := by decide +kernel
theorem dX4_init_41 : decode cX4_init 41 = .ok (.aload_n 0, 1) := by decide +kernel
theorem dX4_init_42 : decode cX4_init 42 = .ok (.iconst 0, 1) := by decide +kernel
theorem dX4_init_43 : decode cX4_init 43 = .ok (.putfield 35, 3) := by decide +kernel
theorem dX4_init_46 : decode cX4_init 46 = .ok (.aload_n 0, 1) := by decide +kernel
theorem dX4_init_47 : decode cX4_init 47 = .ok (.iconst 0, 1) := by decide +kernel
theorem dX4_init_48 : decode cX4_init 48 = .ok (.putfield 38, 3) := by decide +kernel
theorem dX4_init_51 : decode cX4_init 51 = .ok (.aload_n 0, 1) := by decide +kernel
theorem dX4_init_52 : decode cX4_init 52 = .ok (.iconst 5, 1) := by decide +kernel
theorem dX4_init_53 : decode cX4_init 53 = .ok (.newarray .int, 2) := by decide +kernel
theorem dX4_init_55 : decode cX4_init 55 = .ok (.putfield 41, 3) := by decide +kernel
theorem dX4_init_58 : decode cX4_init 58 = .ok (.return_, 1) := by decide +kernel
theorem dX4_readAll_0 : decode cX4_readAll 0 = .ok (.aload_n 0, 1) := by decide +kernel
theorem dX4_readAll_1 : decode cX4_readAll 1 = .ok (.aload_n 1, 1) := by decide +kernel
theorem dX4_readAll_2 : decode cX4_readAll 2 = .ok (.putfield 9, 3) := by decide +kernel
theorem dX4_readAll_5 : decode cX4_readAll 5 = .ok (.aload_n 0, 1) := by decide +kernel
theorem dX4_readAll_6 : decode cX4_readAll 6 = .ok (.iload_n 2, 1) := by decide +kernel
theorem dX4_readAll_7 : decode cX4_readAll 7 = .ok (.aload_n 1, 1) := by decide +kernel
theorem dX4_readAll_8 : decode cX4_readAll 8 = .ok (.arraylength, 1) := by decide +kernel
theorem dX4_readAll_9 : decode cX4_readAll 9 = .ok (.invokestatic 44, 3) := by decide +kernel
theorem dX4_readAll_12 : decode cX4_readAll 12 = .ok (.putfield 15, 3) := by decide +kernel
theorem dX4_readAll_15 : decode cX4_readAll 15 = .ok (.aload_n 0, 1) := by decide +kernel
theorem dX4_readAll_16 : decode cX4_readAll 16 = .ok (.iconst 0, 1) := by decide +kernel
theorem dX4_readAll_17 : decode cX4_readAll 17 = .ok (.putfield 19, 3) := by decide +kernel
theorem dX4_readAll_20 : decode cX4_readAll 20 = .ok (.aload_n 0, 1) := by decide +kernel
theorem dX4_readAll_21 : decode cX4_readAll 21 = .ok (.iconst 0, 1) := by decide +kernel
theorem dX4_readAll_22 : decode cX4_readAll 22 = .ok (.putfield 31, 3) := by decide +kernel
theorem dX4_readAll_25 : decode cX4_readAll 25 = .ok (.aload_n 0, 1) := by decide +kernel
theorem dX4_readAll_26 : decode cX4_readAll 26 = .ok (.iconst 0, 1) := by decide +kernel
theorem dX4_readAll_27 : decode cX4_readAll 27 = .ok (.putfield 35, 3) := by decide +kernel
theorem dX4_readAll_30 : decode cX4_readAll 30 = .ok (.aload_n 0, 1) := by decide +kernel
theorem dX4_readAll_31 : decode cX4_readAll 31 = .ok (.iconst 0, 1) := by decide +kernel
theorem dX4_readAll_32 : decode cX4_readAll 32 = .ok (.putfield 38, 3) := by decide +kernel
theorem dX4_readAll_35 : decode cX4_readAll 35 = .ok (.iconst 0, 1) := by decide +kernel
theorem dX4_readAll_36 : decode cX4_readAll 36 = .ok (.istore 4, 2) := by decide +kernel
theorem dX4_readAll_38 : decode cX4_readAll 38 = .ok (.iload 4, 2) := by decide +kernel
theorem dX4_readAll_40 : decode cX4_readAll 40 = .ok (.aload_n 0, 1) := by decide +kernel
theorem dX4_readAll_41 : decode cX4_readAll 41 = .ok (.getfield 15, 3) := by decide +kernel
theorem dX4_readAll_44 : decode cX4_readAll 44 = .ok (.if_icmp .gt 39, 3) := by decide +kernel
theorem dX4_readAll_47 : decode cX4_readAll 47 = .ok (.aload_n 0, 1) := by decide +kernel
theorem dX4_readAll_48 : decode cX4_readAll 48 = .ok (.invokevirtual 50, 3) := by decide +kernel
theorem dX4_readAll_51 : decode cX4_readAll 51 = .ok (.aload_n 0, 1) := by decide +kernel
theorem dX4_readAll_52 : decode cX4_readAll 52 = .ok (.getfield 22, 3) := by decide +kernel
theorem dX4_readAll_55 : decode cX4_readAll 55 = .ok (.ifCond .ne 6, 3) := by decide +kernel
theorem dX4_readAll_58 : decode cX4_readAll 58 = .ok (.iload 4, 2) := by decide +kernel
theorem dX4_readAll_60 : decode cX4_readAll 60 = .ok (.ireturn, 1) := by decide +kernel
theorem dX4_readAll_61 : decode cX4_readAll 61 = .ok (.aload_n 0, 1) := by decide +kernel
theorem dX4_readAll_62 : decode cX4_readAll 62 = .ok (.aload_n 3, 1) := by decide +kernel
theorem dX4_readAll_63 : decode cX4_readAll 63 = .ok (.invokevirtual 53, 3) := by decide +kernel
theorem dX4_readAll_66 : decode cX4_readAll 66 = .ok (.ifCond .ne 11, 3) := by decide +kernel
theorem dX4_readAll_69 : decode cX4_readAll 69 = .ok (.bipush (-10), 2) := by decide +kernel
theorem dX4_readAll_71 : decode cX4_readAll 71 = .ok (.aload_n 0, 1) := by decide +kernel
theorem dX4_readAll_72 : decode cX4_readAll 72 = .ok (.getfield 25, 3) := by decide +kernel
theorem dX4_readAll_75 : decode cX4_readAll 75 = .ok (.isub, 1) := by decide +kernel
theorem dX4_readAll_76 : decode cX4_readAll 76 = .ok (.ireturn, 1) := by decide +kernel
theorem dX4_readAll_77 : decode cX4_readAll 77 = .ok (.iinc 4 1, 3) := by decide +kernel
theorem dX4_readAll_80 : decode cX4_readAll 80 = .ok (.goto (-42), 3) := by decide +kernel
theorem dX4_readAll_83 : decode cX4_readAll 83 = .ok (.bipush (-10), 2) := by decide +kernel
theorem dX4_readAll_85 : decode cX4_readAll 85 = .ok (.aload_n 0, 1) := by decide +kernel
theorem dX4_readAll_86 : decode cX4_readAll 86 = .ok (.getfield 25, 3) := by decide +kernel
theorem dX4_readAll_89 : decode cX4_readAll 89 = .ok (.isub, 1) := by decide +kernel
theorem dX4_readAll_90 : decode cX4_readAll 90 = .ok (.ireturn, 1) := by decide +kernel
theorem dX4_readItem_0 : decode cX4_readItem 0 = .ok (.aload_n 0, 1) := by decide +kernel
theorem dX4_readItem_1 : decode cX4_readItem 1 = .ok (.getfield 22, 3) := by decide +kernel
theorem dX4_readItem_4 : decode cX4_readItem 4 = .ok (.iconst 1, 1) := by decide +kernel
theorem dX4_readItem_5 : decode cX4_readItem 5 = .ok (.if_icmp .ne 10, 3) := by decide +kernel
theorem dX4_readItem_8 : decode cX4_readItem 8 = .ok (.aload_n 0, 1) := by decide +kernel
theorem dX4_readItem_9 : decode cX4_readItem 9 = .ok (.getfield 28, 3) := by decide +kernel
theorem dX4_readItem_12 : decode cX4_readItem 12 = .ok (.goto 4, 3) := by decide +kernel
theorem dX4_readItem_15 : decode cX4_readItem 15 = .ok (.iconst 0, 1) := by decide +kernel
theorem dX4_readItem_16 : decode cX4_readItem 16 = .ok (.istore_n 2, 1) := by decide +kernel
theorem dX4_readItem_17 : decode cX4_readItem 17 = .ok (.aload_n 0, 1) := by decide +kernel
theorem dX4_readItem_18 : decode cX4_readItem 18 = .ok (.iload_n 2, 1) := by decide +kernel
theorem dX4_readItem_19 : decode cX4_readItem 19 = .ok (.aload_n 1, 1) := by decide +kernel
theorem dX4_readItem_20 : decode cX4_readItem 20 = .ok (.invokevirtual 57, 3) := by decide +kernel
theorem dX4_readItem_23 : decode cX4_readItem 23 = .ok (.ifCond .ne 5, 3) := by decide +kernel
theorem dX4_readItem_26 : decode cX4_readItem 26 = .ok (.iconst 0, 1) := by decide +kernel
theorem dX4_readItem_27 : decode cX4_readItem 27 = .ok (.ireturn, 1) := by decide +kernel
theorem dX4_readItem_28 : decode cX4_readItem 28 = .ok (.iload_n 2, 1) := by decide +kernel
theorem dX4_readItem_29 : decode cX4_readItem 29 = .ok (.invokestatic 61, 3) := by decide +kernel
theorem dX4_readItem_32 : decode cX4_readItem 32 = .ok (.istore_n 3, 1) := by decide +kernel
theorem dX4_readItem_33 : decode cX4_readItem 33 = .ok (.iconst 0, 1) := by decide +kernel
theorem dX4_readItem_34 : decode cX4_readItem 34 = .ok (.istore 4, 2) := by decide +kernel
theorem dX4_readItem_36 : decode cX4_readItem 36 = .ok (.iload 4, 2) := by decide +kernel
theorem dX4_readItem_38 : decode cX4_readItem 38 = .ok (.iload_n 3, 1) := by decide +kernel
theorem dX4_readItem_39 : decode cX4_readItem 39 = .ok (.if_icmp .ge 63, 3) := by decide +kernel
theorem dX4_readItem_42 : decode cX4_readItem 42 = .ok (.aload_n 0, 1) := by decide +kernel
theorem dX4_readItem_43 : decode cX4_readItem 43 = .ok (.invokevirtual 50, 3) := by decide +kernel
theorem dX4_readItem_46 : decode cX4_readItem 46 = .ok (.aload_n 0, 1) := by decide +kernel
theorem dX4_readItem_47 : decode cX4_readItem 47 = .ok (.getfield 22, 3) := by decide +kernel
theorem dX4_readItem_50 : decode cX4_readItem 50 = .ok (.iconst 2, 1) := by decide +kernel
theorem dX4_readItem_51 : decode cX4_readItem 51 = .ok (.if_icmp .ne 32, 3) := by decide +kernel
theorem dX4_readItem_54 : decode cX4_readItem 54 = .ok (.aload_n 0, 1) := by decide +kernel
theorem dX4_readItem_55 : decode cX4_readItem 55 = .ok (.getfield 28, 3) := by decide +kernel
theorem dX4_readItem_58 : decode cX4_readItem 58 = .ok (.aload_n 0, 1) := by decide +kernel
theorem dX4_readItem_59 : decode cX4_readItem 59 = .ok (.iload_n 2, 1) := by decide +kernel
theorem dX4_readItem_60 : decode cX4_readItem 60 = .ok (.iload 4, 2) := by decide +kernel
theorem dX4_readItem_62 : decode cX4_readItem 62 = .ok (.aload_n 1, 1) := by decide +kernel
theorem dX4_readItem_63 : decode cX4_readItem 63 = .ok (.invokevirtual 65, 3) := by decide +kernel
theorem dX4_readItem_66 : decode cX4_readItem 66 = .ok (.if_icmp .lt 17, 3) := by decide +kernel
theorem dX4_readItem_69 : decode cX4_readItem 69 = .ok (.aload_n 0, 1) := by decide +kernel
theorem dX4_readItem_70 : decode cX4_readItem 70 = .ok (.getfield 28, 3) := by decide +kernel
theorem dX4_readItem_73 : decode cX4_readItem 73 = .ok (.iload_n 2, 1) := by decide +kernel
theorem dX4_readItem_74 : decode cX4_readItem 74 = .ok (.iload 4, 2) := by decide +kernel
theorem dX4_readItem_76 : decode cX4_readItem 76 = .ok (.aload_n 1, 1) := by decide +kernel
theorem dX4_readItem_77 : decode cX4_readItem 77 = .ok (.invokestatic 69, 3) := by decide +kernel
theorem dX4_readItem_80 : decode cX4_readItem 80 = .ok (.if_icmp .le 5, 3) := by decide +kernel
theorem dX4_readItem_83 : decode cX4_readItem 83 = .ok (.iconst 0, 1) := by decide +kernel
theorem dX4_readItem_84 : decode cX4_readItem 84 = .ok (.ireturn, 1) := by decide +kernel
theorem dX4_readItem_85 : decode cX4_readItem 85 = .ok (.aload_n 0, 1) := by decide +kernel
theorem dX4_readItem_86 : decode cX4_readItem 86 = .ok (.getfield 41, 3) := by decide +kernel
theorem dX4_readItem_89 : decode cX4_readItem 89 = .ok (.iload 4, 2) := by decide +kernel
theorem dX4_readItem_91 : decode cX4_readItem 91 = .ok (.aload_n 0, 1) := by decide +kernel
theorem dX4_readItem_92 : decode cX4_readItem 92 = .ok (.getfield 28, 3) := by decide +kernel
theorem dX4_readItem_95 : decode cX4_readItem 95 = .ok (.iastore, 1) := by decide +kernel
theorem dX4_readItem_96 : decode cX4_readItem 96 = .ok (.iinc 4 1, 3) := by decide +kernel
theorem dX4_readItem_99 : decode cX4_readItem 99 = .ok (.goto (-63), 3) := by decide +kernel
theorem dX4_readItem_102 : decode cX4_readItem 102 = .ok (.aload_n 0, 1) := by decide +kernel
theorem dX4_readItem_103 : decode cX4_readItem 103 = .ok (.invokevirtual 50, 3) := by decide +kernel
theorem dX4_readItem_106 : decode cX4_readItem 106 = .ok (.aload_n 0, 1) := by decide +kernel
theorem dX4_readItem_107 : decode cX4_readItem 107 = .ok (.getfield 22, 3) := by decide +kernel
theorem dX4_readItem_110 : decode cX4_readItem 110 = .ok (.iconst 3, 1) := by decide +kernel
theorem dX4_readItem_111 : decode cX4_readItem 111 = .ok (.if_icmp .eq 5, 3) := by decide +kernel
theorem dX4_readItem_114 : decode cX4_readItem 114 = .ok (.iconst 0, 1) := by decide +kernel
theorem dX4_readItem_115 : decode cX4_readItem 115 = .ok (.ireturn, 1) := by decide +kernel
theorem dX4_readItem_116 : decode cX4_readItem 116 = .ok (.aload_n 0, 1) := by decide +kernel
theorem dX4_readItem_117 : decode cX4_readItem 117 = .ok (.iload_n 2, 1) := by decide +kernel
theorem dX4_readItem_118 : decode cX4_readItem 118 = .ok (.aload_n 1, 1) := by decide +kernel
theorem dX4_readItem_119 : decode cX4_readItem 119 = .ok (.invokevirtual 72, 3) := by decide +kernel
theorem dX4_readItem_122 : decode cX4_readItem 122 = .ok (.iconst 1, 1) := by decide +kernel
theorem dX4_readItem_123 : decode cX4_readItem 123 = .ok (.ireturn, 1) := by decide +kernel
theorem dX4_mayBegin_0 : decode cX4_mayBegin 0 = .ok (.iload_n 1, 1) := by decide +kernel
theorem dX4_mayBegin_1 : decode cX4_mayBegin 1 = .ok (.lookupswitch 148 #[(98, 94), (100, 134), (113, 121), (115, 79), (116, 107), (121, 59)], 59) := by decide +kernel
theorem dX4_mayBegin_60 : decode cX4_mayBegin 60 = .ok (.aload_n 0, 1) := by decide +kernel
theorem dX4_mayBegin_61 : decode cX4_mayBegin 61 = .ok (.getfield 31, 3) := by decide +kernel
theorem dX4_mayBegin_64 : decode cX4_mayBegin 64 = .ok (.ifCond .ne 14, 3) := by decide +kernel
theorem dX4_mayBegin_67 : decode cX4_mayBegin 67 = .ok (.aload_n 2, 1) := by decide +kernel
theorem dX4_mayBegin_68 : decode cX4_mayBegin 68 = .ok (.getfield 76, 3) := by decide +kernel
theorem dX4_mayBegin_71 : decode cX4_mayBegin 71 = .ok (.ifCond .ne 7, 3) := by decide +kernel
theorem dX4_mayBegin_74 : decode cX4_mayBegin 74 = .ok (.iconst 1, 1) := by decide +kernel
theorem dX4_mayBegin_75 : decode cX4_mayBegin 75 = .ok (.goto 4, 3) := by decide +kernel
theorem dX4_mayBegin_78 : decode cX4_mayBegin 78 = .ok (.iconst 0, 1) := by decide +kernel
theorem dX4_mayBegin_79 : decode cX4_mayBegin 79 = .ok (.ireturn, 1) := by decide +kernel
theorem dX4_mayBegin_80 : decode cX4_mayBegin 80 = .ok (.aload_n 2, 1) := by decide +kernel
theorem dX4_mayBegin_81 : decode cX4_mayBegin 81 = .ok (.getfield 81, 3) := by decide +kernel
theorem dX4_mayBegin_84 : decode cX4_mayBegin 84 = .ok (.bipush 6, 2) := by decide +kernel
theorem dX4_mayBegin_86 : decode cX4_mayBegin 86 = .ok (.if_icmp .ge 7, 3) := by decide +kernel
theorem dX4_mayBegin_89 : decode cX4_mayBegin 89 = .ok (.iconst 1, 1) := by decide +kernel
theorem dX4_mayBegin_90 : decode cX4_mayBegin 90 = .ok (.goto 4, 3) := by decide +kernel
theorem dX4_mayBegin_93 : decode cX4_mayBegin 93 = .ok (.iconst 0, 1) := by decide +kernel
theorem dX4_mayBegin_94 : decode cX4_mayBegin 94 = .ok (.ireturn, 1) := by decide +kernel
theorem dX4_mayBegin_95 : decode cX4_mayBegin 95 = .ok (.aload_n 0, 1) := by decide +kernel
theorem dX4_mayBegin_96 : decode cX4_mayBegin 96 = .ok (.getfield 35, 3) := by decide +kernel
theorem dX4_mayBegin_99 : decode cX4_mayBegin 99 = .ok (.ifCond .ne 7, 3) := by decide +kernel
theorem dX4_mayBegin_102 : decode cX4_mayBegin 102 = .ok (.iconst 1, 1) := by decide +kernel
theorem dX4_mayBegin_103 : decode cX4_mayBegin 103 = .ok (.goto 4, 3) := by decide +kernel
theorem dX4_mayBegin_106 : decode cX4_mayBegin 106 = .ok (.iconst 0, 1) := by decide +kernel
theorem dX4_mayBegin_107 : decode cX4_mayBegin 107 = .ok (.ireturn, 1) := by decide +kernel
theorem dX4_mayBegin_108 : decode cX4_mayBegin 108 = .ok (.aload_n 2, 1) := by decide +kernel
theorem dX4_mayBegin_109 : decode cX4_mayBegin 109 = .ok (.getfield 76, 3) := by decide +kernel
theorem dX4_mayBegin_112 : decode cX4_mayBegin 112 = .ok (.iconst 3, 1) := by decide +kernel
theorem dX4_mayBegin_113 : decode cX4_mayBegin 113 = .ok (.if_icmp .ge 7, 3) := by decide +kernel
theorem dX4_mayBegin_116 : decode cX4_mayBegin 116 = .ok (.iconst 1, 1) := by decide +kernel
theorem dX4_mayBegin_117 : decode cX4_mayBegin 117 = .ok (.goto 4, 3) := by decide +kernel
theorem dX4_mayBegin_120 : decode cX4_mayBegin 120 = .ok (.iconst 0, 1) := by decide +kernel
theorem dX4_mayBegin_121 : decode cX4_mayBegin 121 = .ok (.ireturn, 1) := by decide +kernel
theorem dX4_mayBegin_122 : decode cX4_mayBegin 122 = .ok (.aload_n 0, 1) := by decide +kernel
theorem dX4_mayBegin_123 : decode cX4_mayBegin 123 = .ok (.getfield 38, 3) := by decide +kernel
theorem dX4_mayBegin_126 : decode cX4_mayBegin 126 = .ok (.ifCond .ne 7, 3) := by decide +kernel
theorem dX4_mayBegin_129 : decode cX4_mayBegin 129 = .ok (.iconst 1, 1) := by decide +kernel
theorem dX4_mayBegin_130 : decode cX4_mayBegin 130 = .ok (.goto 4, 3) := by decide +kernel
theorem dX4_mayBegin_133 : decode cX4_mayBegin 133 = .ok (.iconst 0, 1) := by decide +kernel
theorem dX4_mayBegin_134 : decode cX4_mayBegin 134 = .ok (.ireturn, 1) := by decide +kernel
theorem dX4_mayBegin_135 : decode cX4_mayBegin 135 = .ok (.aload_n 2, 1) := by decide +kernel
theorem dX4_mayBegin_136 : decode cX4_mayBegin 136 = .ok (.getfield 84, 3) := by decide +kernel
theorem dX4_mayBegin_139 : decode cX4_mayBegin 139 = .ok (.iconst 4, 1) := by decide +kernel
theorem dX4_mayBegin_140 : decode cX4_mayBegin 140 = .ok (.if_icmp .ge 7, 3) := by decide +kernel
theorem dX4_mayBegin_143 : decode cX4_mayBegin 143 = .ok (.iconst 1, 1) := by decide +kernel
theorem dX4_mayBegin_144 : decode cX4_mayBegin 144 = .ok (.goto 4, 3) := by decide +kernel
theorem dX4_mayBegin_147 : decode cX4_mayBegin 147 = .ok (.iconst 0, 1) := by decide +kernel
theorem dX4_mayBegin_148 : decode cX4_mayBegin 148 = .ok (.ireturn, 1) := by decide +kernel
theorem dX4_mayBegin_149 : decode cX4_mayBegin 149 = .ok (.iconst 0, 1) := by decide +kernel
theorem dX4_mayBegin_150 : decode cX4_mayBegin 150 = .ok (.ireturn, 1) := by decide +kernel
theorem dX4_numbersOf_0 : decode cX4_numbersOf 0 = .ok (.iload_n 0, 1) := by decide +kernel
theorem dX4_numbersOf_1 : decode cX4_numbersOf 1 = .ok (.lookupswitch 41 #[(100, 39), (115, 35), (116, 37)], 35) := by decide +kernel
theorem dX4_numbersOf_36 : decode cX4_numbersOf 36 = .ok (.iconst 5, 1) := by decide +kernel
theorem dX4_numbersOf_37 : decode cX4_numbersOf 37 = .ok (.ireturn, 1) := by decide +kernel
theorem dX4_numbersOf_38 : decode cX4_numbersOf 38 = .ok (.iconst 3, 1) := by decide +kernel
theorem dX4_numbersOf_39 : decode cX4_numbersOf 39 = .ok (.ireturn, 1) := by decide +kernel
theorem dX4_numbersOf_40 : decode cX4_numbersOf 40 = .ok (.iconst 2, 1) := by decide +kernel
theorem dX4_numbersOf_41 : decode cX4_numbersOf 41 = .ok (.ireturn, 1) := by decide +kernel
theorem dX4_numbersOf_42 : decode cX4_numbersOf 42 = .ok (.iconst 1, 1) := by decide +kernel
theorem dX4_numbersOf_43 : decode cX4_numbersOf 43 = .ok (.ireturn, 1) := by decide +kernel
theorem dX4_least_0 : decode cX4_least 0 = .ok (.iload_n 1, 1) := by decide +kernel
theorem dX4_least_1 : decode cX4_least 1 = .ok (.lookupswitch 46 #[(113, 37), (116, 39), (121, 35)], 35) := by decide +kernel
theorem dX4_least_36 : decode cX4_least 36 = .ok (.iconst 2, 1) := by decide +kernel
theorem dX4_least_37 : decode cX4_least 37 = .ok (.ireturn, 1) := by decide +kernel
theorem dX4_least_38 : decode cX4_least 38 = .ok (.iconst 1, 1) := by decide +kernel
theorem dX4_least_39 : decode cX4_least 39 = .ok (.ireturn, 1) := by decide +kernel
theorem dX4_least_40 : decode cX4_least 40 = .ok (.aload_n 0, 1) := by decide +kernel
theorem dX4_least_41 : decode cX4_least 41 = .ok (.iload_n 2, 1) := by decide +kernel
theorem dX4_least_42 : decode cX4_least 42 = .ok (.aload_n 3, 1) := by decide +kernel
theorem dX4_least_43 : decode cX4_least 43 = .ok (.invokevirtual 87, 3) := by decide +kernel
theorem dX4_least_46 : decode cX4_least 46 = .ok (.ireturn, 1) := by decide +kernel
theorem dX4_least_47 : decode cX4_least 47 = .ok (.iconst 0, 1) := by decide +kernel
theorem dX4_least_48 : decode cX4_least 48 = .ok (.ireturn, 1) := by decide +kernel
theorem dX4_leastOfTrial_0 : decode cX4_leastOfTrial 0 = .ok (.iload_n 1, 1) := by decide +kernel
theorem dX4_leastOfTrial_1 : decode cX4_leastOfTrial 1 = .ok (.ifCond .ne 28, 3) := by decide +kernel
theorem dX4_leastOfTrial_4 : decode cX4_leastOfTrial 4 = .ok (.aload_n 2, 1) := by decide +kernel
theorem dX4_leastOfTrial_5 : decode cX4_leastOfTrial 5 = .ok (.getfield 76, 3) := by decide +kernel
theorem dX4_leastOfTrial_8 : decode cX4_leastOfTrial 8 = .ok (.ifCond .ne 7, 3) := by decide +kernel
theorem dX4_leastOfTrial_11 : decode cX4_leastOfTrial 11 = .ok (.iconst 0, 1) := by decide +kernel
theorem dX4_leastOfTrial_12 : decode cX4_leastOfTrial 12 = .ok (.goto 16, 3) := by decide +kernel
theorem dX4_leastOfTrial_15 : decode cX4_leastOfTrial 15 = .ok (.aload_n 2, 1) := by decide +kernel
theorem dX4_leastOfTrial_16 : decode cX4_leastOfTrial 16 = .ok (.getfield 91, 3) := by decide +kernel
theorem dX4_leastOfTrial_19 : decode cX4_leastOfTrial 19 = .ok (.aload_n 2, 1) := by decide +kernel
theorem dX4_leastOfTrial_20 : decode cX4_leastOfTrial 20 = .ok (.getfield 76, 3) := by decide +kernel
theorem dX4_leastOfTrial_23 : decode cX4_leastOfTrial 23 = .ok (.iconst 1, 1) := by decide +kernel
theorem dX4_leastOfTrial_24 : decode cX4_leastOfTrial 24 = .ok (.isub, 1) := by decide +kernel
theorem dX4_leastOfTrial_25 : decode cX4_leastOfTrial 25 = .ok (.iaload, 1) := by decide +kernel
theorem dX4_leastOfTrial_26 : decode cX4_leastOfTrial 26 = .ok (.iconst 1, 1) := by decide +kernel
theorem dX4_leastOfTrial_27 : decode cX4_leastOfTrial 27 = .ok (.iadd, 1) := by decide +kernel
theorem dX4_leastOfTrial_28 : decode cX4_leastOfTrial 28 = .ok (.ireturn, 1) := by decide +kernel
theorem dX4_leastOfTrial_29 : decode cX4_leastOfTrial 29 = .ok (.iload_n 1, 1) := by decide +kernel
theorem dX4_leastOfTrial_30 : decode cX4_leastOfTrial 30 = .ok (.iconst 1, 1) := by decide +kernel
theorem dX4_leastOfTrial_31 : decode cX4_leastOfTrial 31 = .ok (.if_icmp .ne 14, 3) := by decide +kernel
theorem dX4_leastOfTrial_34 : decode cX4_leastOfTrial 34 = .ok (.aload_n 0, 1) := by decide +kernel
theorem dX4_leastOfTrial_35 : decode cX4_leastOfTrial 35 = .ok (.getfield 41, 3) := by decide +kernel
theorem dX4_leastOfTrial_38 : decode cX4_leastOfTrial 38 = .ok (.iconst 0, 1) := by decide +kernel
theorem dX4_leastOfTrial_39 : decode cX4_leastOfTrial 39 = .ok (.iaload, 1) := by decide +kernel
theorem dX4_leastOfTrial_40 : decode cX4_leastOfTrial 40 = .ok (.iconst 1, 1) := by decide +kernel
theorem dX4_leastOfTrial_41 : decode cX4_leastOfTrial 41 = .ok (.iadd, 1) := by decide +kernel
theorem dX4_leastOfTrial_42 : decode cX4_leastOfTrial 42 = .ok (.goto 9, 3) := by decide +kernel
theorem dX4_leastOfTrial_45 : decode cX4_leastOfTrial 45 = .ok (.aload_n 0, 1) := by decide +kernel
theorem dX4_leastOfTrial_46 : decode cX4_leastOfTrial 46 = .ok (.getfield 41, 3) := by decide +kernel
theorem dX4_leastOfTrial_49 : decode cX4_leastOfTrial 49 = .ok (.iconst 1, 1) := by decide +kernel
theorem dX4_leastOfTrial_50 : decode cX4_leastOfTrial 50 = .ok (.iaload, 1) := by decide +kernel
theorem dX4_leastOfTrial_51 : decode cX4_leastOfTrial 51 = .ok (.ireturn, 1) := by decide +kernel
theorem dX4_most_0 : decode cX4_most 0 = .ok (.iload_n 0, 1) := by decide +kernel
theorem dX4_most_1 : decode cX4_most 1 = .ok (.tableswitch 97 113 121 #[54, 97, 77, 57, 97, 97, 97, 97, 51], 51) := by decide +kernel
theorem dX4_most_52 : decode cX4_most 52 = .ok (.bipush 16, 2) := by decide +kernel
theorem dX4_most_54 : decode cX4_most 54 = .ok (.ireturn, 1) := by decide +kernel
theorem dX4_most_55 : decode cX4_most 55 = .ok (.bipush 9, 2) := by decide +kernel
theorem dX4_most_57 : decode cX4_most 57 = .ok (.ireturn, 1) := by decide +kernel
theorem dX4_most_58 : decode cX4_most 58 = .ok (.iload_n 1, 1) := by decide +kernel
theorem dX4_most_59 : decode cX4_most 59 = .ok (.ifCond .ne 12, 3) := by decide +kernel
theorem dX4_most_62 : decode cX4_most 62 = .ok (.aload_n 2, 1) := by decide +kernel
theorem dX4_most_63 : decode cX4_most 63 = .ok (.getfield 94, 3) := by decide +kernel
theorem dX4_most_66 : decode cX4_most 66 = .ok (.iconst 2, 1) := by decide +kernel
theorem dX4_most_67 : decode cX4_most 67 = .ok (.isub, 1) := by decide +kernel
theorem dX4_most_68 : decode cX4_most 68 = .ok (.goto 9, 3) := by decide +kernel
theorem dX4_most_71 : decode cX4_most 71 = .ok (.aload_n 2, 1) := by decide +kernel
theorem dX4_most_72 : decode cX4_most 72 = .ok (.getfield 94, 3) := by decide +kernel
theorem dX4_most_75 : decode cX4_most 75 = .ok (.iconst 1, 1) := by decide +kernel
theorem dX4_most_76 : decode cX4_most 76 = .ok (.isub, 1) := by decide +kernel
theorem dX4_most_77 : decode cX4_most 77 = .ok (.ireturn, 1) := by decide +kernel
theorem dX4_most_78 : decode cX4_most 78 = .ok (.iload_n 1, 1) := by decide +kernel
theorem dX4_most_79 : decode cX4_most 79 = .ok (.ifCond .ne 8, 3) := by decide +kernel
theorem dX4_most_82 : decode cX4_most 82 = .ok (.bipush 18, 2) := by decide +kernel
theorem dX4_most_84 : decode cX4_most 84 = .ok (.goto 13, 3) := by decide +kernel
theorem dX4_most_87 : decode cX4_most 87 = .ok (.iload_n 1, 1) := by decide +kernel
theorem dX4_most_88 : decode cX4_most 88 = .ok (.iconst 1, 1) := by decide +kernel
theorem dX4_most_89 : decode cX4_most 89 = .ok (.if_icmp .ne 7, 3) := by decide +kernel
theorem dX4_most_92 : decode cX4_most 92 = .ok (.iconst 1, 1) := by decide +kernel
theorem dX4_most_93 : decode cX4_most 93 = .ok (.goto 4, 3) := by decide +kernel
theorem dX4_most_96 : decode cX4_most 96 = .ok (.iconst 5, 1) := by decide +kernel
theorem dX4_most_97 : decode cX4_most 97 = .ok (.ireturn, 1) := by decide +kernel
theorem dX4_most_98 : decode cX4_most 98 = .ok (.iconst 5, 1) := by decide +kernel
theorem dX4_most_99 : decode cX4_most 99 = .ok (.ireturn, 1) := by decide +kernel
theorem dX4_take_0 : decode cX4_take 0 = .ok (.iload_n 1, 1) := by decide +kernel
theorem dX4_take_1 : decode cX4_take 1 = .ok (.lookupswitch 121 #[(98, 69), (113, 87), (115, 105), (116, 113), (121, 51)], 51) := by decide +kernel
theorem dX4_take_52 : decode cX4_take 52 = .ok (.aload_n 2, 1) := by decide +kernel
theorem dX4_take_53 : decode cX4_take 53 = .ok (.aload_n 0, 1) := by decide +kernel
theorem dX4_take_54 : decode cX4_take 54 = .ok (.getfield 41, 3) := by decide +kernel
theorem dX4_take_57 : decode cX4_take 57 = .ok (.iconst 0, 1) := by decide +kernel
theorem dX4_take_58 : decode cX4_take 58 = .ok (.iaload, 1) := by decide +kernel
theorem dX4_take_59 : decode cX4_take 59 = .ok (.putfield 94, 3) := by decide +kernel
theorem dX4_take_62 : decode cX4_take 62 = .ok (.aload_n 0, 1) := by decide +kernel
theorem dX4_take_63 : decode cX4_take 63 = .ok (.iconst 1, 1) := by decide +kernel
theorem dX4_take_64 : decode cX4_take 64 = .ok (.putfield 31, 3) := by decide +kernel
theorem dX4_take_67 : decode cX4_take 67 = .ok (.goto 60, 3) := by decide +kernel
theorem dX4_take_70 : decode cX4_take 70 = .ok (.aload_n 2, 1) := by decide +kernel
theorem dX4_take_71 : decode cX4_take 71 = .ok (.aload_n 0, 1) := by decide +kernel
theorem dX4_take_72 : decode cX4_take 72 = .ok (.getfield 41, 3) := by decide +kernel
theorem dX4_take_75 : decode cX4_take 75 = .ok (.iconst 0, 1) := by decide +kernel
theorem dX4_take_76 : decode cX4_take 76 = .ok (.iaload, 1) := by decide +kernel
theorem dX4_take_77 : decode cX4_take 77 = .ok (.putfield 97, 3) := by decide +kernel
theorem dX4_take_80 : decode cX4_take 80 = .ok (.aload_n 0, 1) := by decide +kernel
theorem dX4_take_81 : decode cX4_take 81 = .ok (.iconst 1, 1) := by decide +kernel
theorem dX4_take_82 : decode cX4_take 82 = .ok (.putfield 35, 3) := by decide +kernel
theorem dX4_take_85 : decode cX4_take 85 = .ok (.goto 42, 3) := by decide +kernel
theorem dX4_take_88 : decode cX4_take 88 = .ok (.aload_n 2, 1) := by decide +kernel
theorem dX4_take_89 : decode cX4_take 89 = .ok (.aload_n 0, 1) := by decide +kernel
theorem dX4_take_90 : decode cX4_take 90 = .ok (.getfield 41, 3) := by decide +kernel
theorem dX4_take_93 : decode cX4_take 93 = .ok (.iconst 0, 1) := by decide +kernel
theorem dX4_take_94 : decode cX4_take 94 = .ok (.iaload, 1) := by decide +kernel
theorem dX4_take_95 : decode cX4_take 95 = .ok (.putfield 100, 3) := by decide +kernel
theorem dX4_take_98 : decode cX4_take 98 = .ok (.aload_n 0, 1) := by decide +kernel
theorem dX4_take_99 : decode cX4_take 99 = .ok (.iconst 1, 1) := by decide +kernel
theorem dX4_take_100 : decode cX4_take 100 = .ok (.putfield 38, 3) := by decide +kernel
theorem dX4_take_103 : decode cX4_take 103 = .ok (.goto 24, 3) := by decide +kernel
theorem dX4_take_106 : decode cX4_take 106 = .ok (.aload_n 0, 1) := by decide +kernel
theorem dX4_take_107 : decode cX4_take 107 = .ok (.aload_n 2, 1) := by decide +kernel
theorem dX4_take_108 : decode cX4_take 108 = .ok (.invokevirtual 103, 3) := by decide +kernel
theorem dX4_take_111 : decode cX4_take 111 = .ok (.goto 16, 3) := by decide +kernel
theorem dX4_take_114 : decode cX4_take 114 = .ok (.aload_n 0, 1) := by decide +kernel
theorem dX4_take_115 : decode cX4_take 115 = .ok (.aload_n 2, 1) := by decide +kernel
theorem dX4_take_116 : decode cX4_take 116 = .ok (.invokevirtual 107, 3) := by decide +kernel
theorem dX4_take_119 : decode cX4_take 119 = .ok (.goto 8, 3) := by decide +kernel
theorem dX4_take_122 : decode cX4_take 122 = .ok (.aload_n 0, 1) := by decide +kernel
theorem dX4_take_123 : decode cX4_take 123 = .ok (.aload_n 2, 1) := by decide +kernel
theorem dX4_take_124 : decode cX4_take 124 = .ok (.invokevirtual 110, 3) := by decide +kernel
theorem dX4_take_127 : decode cX4_take 127 = .ok (.return_, 1) := by decide +kernel
theorem dX4_takeState_0 : decode cX4_takeState 0 = .ok (.aload_n 1, 1) := by decide +kernel
theorem dX4_takeState_1 : decode cX4_takeState 1 = .ok (.getfield 81, 3) := by decide +kernel
theorem dX4_takeState_4 : decode cX4_takeState 4 = .ok (.istore_n 2, 1) := by decide +kernel
theorem dX4_takeState_5 : decode cX4_takeState 5 = .ok (.aload_n 1, 1) := by decide +kernel
theorem dX4_takeState_6 : decode cX4_takeState 6 = .ok (.getfield 113, 3) := by decide +kernel
theorem dX4_takeState_9 : decode cX4_takeState 9 = .ok (.iload_n 2, 1) := by decide +kernel
theorem dX4_takeState_10 : decode cX4_takeState 10 = .ok (.aload_n 0, 1) := by decide +kernel
theorem dX4_takeState_11 : decode cX4_takeState 11 = .ok (.getfield 41, 3) := by decide +kernel
theorem dX4_takeState_14 : decode cX4_takeState 14 = .ok (.iconst 0, 1) := by decide +kernel
theorem dX4_takeState_15 : decode cX4_takeState 15 = .ok (.iaload, 1) := by decide +kernel
theorem dX4_takeState_16 : decode cX4_takeState 16 = .ok (.bipush 9, 2) := by decide +kernel
theorem dX4_takeState_18 : decode cX4_takeState 18 = .ok (.isub, 1) := by decide +kernel
theorem dX4_takeState_19 : decode cX4_takeState 19 = .ok (.iastore, 1) := by decide +kernel
theorem dX4_takeState_20 : decode cX4_takeState 20 = .ok (.aload_n 1, 1) := by decide +kernel
theorem dX4_takeState_21 : decode cX4_takeState 21 = .ok (.getfield 116, 3) := by decide +kernel
theorem dX4_takeState_24 : decode cX4_takeState 24 = .ok (.iload_n 2, 1) := by decide +kernel
theorem dX4_takeState_25 : decode cX4_takeState 25 = .ok (.aload_n 0, 1) := by decide +kernel
theorem dX4_takeState_26 : decode cX4_takeState 26 = .ok (.getfield 41, 3) := by decide +kernel
theorem dX4_takeState_29 : decode cX4_takeState 29 = .ok (.iconst 1, 1) := by decide +kernel
theorem dX4_takeState_30 : decode cX4_takeState 30 = .ok (.iaload, 1) := by decide +kernel
theorem dX4_takeState_31 : decode cX4_takeState 31 = .ok (.iastore, 1) := by decide +kernel
theorem dX4_takeState_32 : decode cX4_takeState 32 = .ok (.iconst 0, 1) := by decide +kernel
theorem dX4_takeState_33 : decode cX4_takeState 33 = .ok (.istore_n 3, 1) := by decide +kernel
theorem dX4_takeState_34 : decode cX4_takeState 34 = .ok (.iload_n 3, 1) := by decide +kernel
theorem dX4_takeState_35 : decode cX4_takeState 35 = .ok (.iconst 3, 1) := by decide +kernel
theorem dX4_takeState_36 : decode cX4_takeState 36 = .ok (.if_icmp .ge 27, 3) := by decide +kernel
theorem dX4_takeState_39 : decode cX4_takeState 39 = .ok (.aload_n 1, 1) := by decide +kernel
theorem dX4_takeState_40 : decode cX4_takeState 40 = .ok (.getfield 119, 3) := by decide +kernel
theorem dX4_takeState_43 : decode cX4_takeState 43 = .ok (.iload_n 2, 1) := by decide +kernel
theorem dX4_takeState_44 : decode cX4_takeState 44 = .ok (.iconst 3, 1) := by decide +kernel
theorem dX4_takeState_45 : decode cX4_takeState 45 = .ok (.imul, 1) := by decide +kernel
theorem dX4_takeState_46 : decode cX4_takeState 46 = .ok (.iload_n 3, 1) := by decide +kernel
theorem dX4_takeState_47 : decode cX4_takeState 47 = .ok (.iadd, 1) := by decide +kernel
theorem dX4_takeState_48 : decode cX4_takeState 48 = .ok (.aload_n 0, 1) := by decide +kernel
theorem dX4_takeState_49 : decode cX4_takeState 49 = .ok (.getfield 41, 3) := by decide +kernel
theorem dX4_takeState_52 : decode cX4_takeState 52 = .ok (.iconst 2, 1) := by decide +kernel
theorem dX4_takeState_53 : decode cX4_takeState 53 = .ok (.iload_n 3, 1) := by decide +kernel
theorem dX4_takeState_54 : decode cX4_takeState 54 = .ok (.iadd, 1) := by decide +kernel
theorem dX4_takeState_55 : decode cX4_takeState 55 = .ok (.iaload, 1) := by decide +kernel
theorem dX4_takeState_56 : decode cX4_takeState 56 = .ok (.iastore, 1) := by decide +kernel
theorem dX4_takeState_57 : decode cX4_takeState 57 = .ok (.iinc 3 1, 3) := by decide +kernel
theorem dX4_takeState_60 : decode cX4_takeState 60 = .ok (.goto (-26), 3) := by decide +kernel
theorem dX4_takeState_63 : decode cX4_takeState 63 = .ok (.aload_n 1, 1) := by decide +kernel
theorem dX4_takeState_64 : decode cX4_takeState 64 = .ok (.dup, 1) := by decide +kernel
theorem dX4_takeState_65 : decode cX4_takeState 65 = .ok (.getfield 81, 3) := by decide +kernel
theorem dX4_takeState_68 : decode cX4_takeState 68 = .ok (.iconst 1, 1) := by decide +kernel
theorem dX4_takeState_69 : decode cX4_takeState 69 = .ok (.iadd, 1) := by decide +kernel
theorem dX4_takeState_70 : decode cX4_takeState 70 = .ok (.putfield 81, 3) := by decide +kernel
theorem dX4_takeState_73 : decode cX4_takeState 73 = .ok (.return_, 1) := by decide +kernel
theorem dX4_takeTrial_0 : decode cX4_takeTrial 0 = .ok (.aload_n 1, 1) := by decide +kernel
theorem dX4_takeTrial_1 : decode cX4_takeTrial 1 = .ok (.getfield 76, 3) := by decide +kernel
theorem dX4_takeTrial_4 : decode cX4_takeTrial 4 = .ok (.istore_n 2, 1) := by decide +kernel
theorem dX4_takeTrial_5 : decode cX4_takeTrial 5 = .ok (.aload_n 1, 1) := by decide +kernel
theorem dX4_takeTrial_6 : decode cX4_takeTrial 6 = .ok (.getfield 91, 3) := by decide +kernel
theorem dX4_takeTrial_9 : decode cX4_takeTrial 9 = .ok (.iload_n 2, 1) := by decide +kernel
theorem dX4_takeTrial_10 : decode cX4_takeTrial 10 = .ok (.aload_n 0, 1) := by decide +kernel
theorem dX4_takeTrial_11 : decode cX4_takeTrial 11 = .ok (.getfield 41, 3) := by decide +kernel
theorem dX4_takeTrial_14 : decode cX4_takeTrial 14 = .ok (.iconst 0, 1) := by decide +kernel
theorem dX4_takeTrial_15 : decode cX4_takeTrial 15 = .ok (.iaload, 1) := by decide +kernel
theorem dX4_takeTrial_16 : decode cX4_takeTrial 16 = .ok (.iastore, 1) := by decide +kernel
theorem dX4_takeTrial_17 : decode cX4_takeTrial 17 = .ok (.aload_n 1, 1) := by decide +kernel
theorem dX4_takeTrial_18 : decode cX4_takeTrial 18 = .ok (.getfield 122, 3) := by decide +kernel
theorem dX4_takeTrial_21 : decode cX4_takeTrial 21 = .ok (.iload_n 2, 1) := by decide +kernel
theorem dX4_takeTrial_22 : decode cX4_takeTrial 22 = .ok (.aload_n 0, 1) := by decide +kernel
theorem dX4_takeTrial_23 : decode cX4_takeTrial 23 = .ok (.getfield 41, 3) := by decide +kernel
theorem dX4_takeTrial_26 : decode cX4_takeTrial 26 = .ok (.iconst 1, 1) := by decide +kernel
theorem dX4_takeTrial_27 : decode cX4_takeTrial 27 = .ok (.iaload, 1) := by decide +kernel
theorem dX4_takeTrial_28 : decode cX4_takeTrial 28 = .ok (.iastore, 1) := by decide +kernel
theorem dX4_takeTrial_29 : decode cX4_takeTrial 29 = .ok (.aload_n 1, 1) := by decide +kernel
theorem dX4_takeTrial_30 : decode cX4_takeTrial 30 = .ok (.getfield 125, 3) := by decide +kernel
theorem dX4_takeTrial_33 : decode cX4_takeTrial 33 = .ok (.iload_n 2, 1) := by decide +kernel
theorem dX4_takeTrial_34 : decode cX4_takeTrial 34 = .ok (.aload_n 0, 1) := by decide +kernel
theorem dX4_takeTrial_35 : decode cX4_takeTrial 35 = .ok (.getfield 41, 3) := by decide +kernel
theorem dX4_takeTrial_38 : decode cX4_takeTrial 38 = .ok (.iconst 2, 1) := by decide +kernel
theorem dX4_takeTrial_39 : decode cX4_takeTrial 39 = .ok (.iaload, 1) := by decide +kernel
theorem dX4_takeTrial_40 : decode cX4_takeTrial 40 = .ok (.iastore, 1) := by decide +kernel
theorem dX4_takeTrial_41 : decode cX4_takeTrial 41 = .ok (.aload_n 1, 1) := by decide +kernel
theorem dX4_takeTrial_42 : decode cX4_takeTrial 42 = .ok (.dup, 1) := by decide +kernel
theorem dX4_takeTrial_43 : decode cX4_takeTrial 43 = .ok (.getfield 76, 3) := by decide +kernel
theorem dX4_takeTrial_46 : decode cX4_takeTrial 46 = .ok (.iconst 1, 1) := by decide +kernel
theorem dX4_takeTrial_47 : decode cX4_takeTrial 47 = .ok (.iadd, 1) := by decide +kernel
theorem dX4_takeTrial_48 : decode cX4_takeTrial 48 = .ok (.putfield 76, 3) := by decide +kernel
theorem dX4_takeTrial_51 : decode cX4_takeTrial 51 = .ok (.return_, 1) := by decide +kernel
theorem dX4_takeDeed_0 : decode cX4_takeDeed 0 = .ok (.aload_n 1, 1) := by decide +kernel
theorem dX4_takeDeed_1 : decode cX4_takeDeed 1 = .ok (.getfield 84, 3) := by decide +kernel
theorem dX4_takeDeed_4 : decode cX4_takeDeed 4 = .ok (.istore_n 2, 1) := by decide +kernel
theorem dX4_takeDeed_5 : decode cX4_takeDeed 5 = .ok (.aload_n 1, 1) := by decide +kernel
theorem dX4_takeDeed_6 : decode cX4_takeDeed 6 = .ok (.getfield 128, 3) := by decide +kernel
theorem dX4_takeDeed_9 : decode cX4_takeDeed 9 = .ok (.iload_n 2, 1) := by decide +kernel
theorem dX4_takeDeed_10 : decode cX4_takeDeed 10 = .ok (.aload_n 0, 1) := by decide +kernel
theorem dX4_takeDeed_11 : decode cX4_takeDeed 11 = .ok (.getfield 41, 3) := by decide +kernel
theorem dX4_takeDeed_14 : decode cX4_takeDeed 14 = .ok (.iconst 0, 1) := by decide +kernel
theorem dX4_takeDeed_15 : decode cX4_takeDeed 15 = .ok (.iaload, 1) := by decide +kernel
theorem dX4_takeDeed_16 : decode cX4_takeDeed 16 = .ok (.iastore, 1) := by decide +kernel
theorem dX4_takeDeed_17 : decode cX4_takeDeed 17 = .ok (.aload_n 1, 1) := by decide +kernel
theorem dX4_takeDeed_18 : decode cX4_takeDeed 18 = .ok (.getfield 131, 3) := by decide +kernel
theorem dX4_takeDeed_21 : decode cX4_takeDeed 21 = .ok (.iload_n 2, 1) := by decide +kernel
theorem dX4_takeDeed_22 : decode cX4_takeDeed 22 = .ok (.aload_n 0, 1) := by decide +kernel
theorem dX4_takeDeed_23 : decode cX4_takeDeed 23 = .ok (.getfield 41, 3) := by decide +kernel
theorem dX4_takeDeed_26 : decode cX4_takeDeed 26 = .ok (.iconst 1, 1) := by decide +kernel
theorem dX4_takeDeed_27 : decode cX4_takeDeed 27 = .ok (.iaload, 1) := by decide +kernel
theorem dX4_takeDeed_28 : decode cX4_takeDeed 28 = .ok (.iastore, 1) := by decide +kernel
theorem dX4_takeDeed_29 : decode cX4_takeDeed 29 = .ok (.aload_n 1, 1) := by decide +kernel
theorem dX4_takeDeed_30 : decode cX4_takeDeed 30 = .ok (.dup, 1) := by decide +kernel
theorem dX4_takeDeed_31 : decode cX4_takeDeed 31 = .ok (.getfield 84, 3) := by decide +kernel
theorem dX4_takeDeed_34 : decode cX4_takeDeed 34 = .ok (.iconst 1, 1) := by decide +kernel
theorem dX4_takeDeed_35 : decode cX4_takeDeed 35 = .ok (.iadd, 1) := by decide +kernel
theorem dX4_takeDeed_36 : decode cX4_takeDeed 36 = .ok (.putfield 84, 3) := by decide +kernel
theorem dX4_takeDeed_39 : decode cX4_takeDeed 39 = .ok (.return_, 1) := by decide +kernel
theorem dX4_nextToken_0 : decode cX4_nextToken 0 = .ok (.aload_n 0, 1) := by decide +kernel
theorem dX4_nextToken_1 : decode cX4_nextToken 1 = .ok (.getfield 19, 3) := by decide +kernel
theorem dX4_nextToken_4 : decode cX4_nextToken 4 = .ok (.aload_n 0, 1) := by decide +kernel
theorem dX4_nextToken_5 : decode cX4_nextToken 5 = .ok (.getfield 15, 3) := by decide +kernel
theorem dX4_nextToken_8 : decode cX4_nextToken 8 = .ok (.if_icmp .ge 30, 3) := by decide +kernel
theorem dX4_nextToken_11 : decode cX4_nextToken 11 = .ok (.aload_n 0, 1) := by decide +kernel
theorem dX4_nextToken_12 : decode cX4_nextToken 12 = .ok (.getfield 9, 3) := by decide +kernel
theorem dX4_nextToken_15 : decode cX4_nextToken 15 = .ok (.aload_n 0, 1) := by decide +kernel
theorem dX4_nextToken_16 : decode cX4_nextToken 16 = .ok (.getfield 19, 3) := by decide +kernel
theorem dX4_nextToken_19 : decode cX4_nextToken 19 = .ok (.iaload, 1) := by decide +kernel
theorem dX4_nextToken_20 : decode cX4_nextToken 20 = .ok (.bipush 32, 2) := by decide +kernel
theorem dX4_nextToken_22 : decode cX4_nextToken 22 = .ok (.if_icmp .ne 16, 3) := by decide +kernel
theorem dX4_nextToken_25 : decode cX4_nextToken 25 = .ok (.aload_n 0, 1) := by decide +kernel
theorem dX4_nextToken_26 : decode cX4_nextToken 26 = .ok (.dup, 1) := by decide +kernel
theorem dX4_nextToken_27 : decode cX4_nextToken 27 = .ok (.getfield 19, 3) := by decide +kernel
theorem dX4_nextToken_30 : decode cX4_nextToken 30 = .ok (.iconst 1, 1) := by decide +kernel
theorem dX4_nextToken_31 : decode cX4_nextToken 31 = .ok (.iadd, 1) := by decide +kernel
theorem dX4_nextToken_32 : decode cX4_nextToken 32 = .ok (.putfield 19, 3) := by decide +kernel
theorem dX4_nextToken_35 : decode cX4_nextToken 35 = .ok (.goto (-35), 3) := by decide +kernel
theorem dX4_nextToken_38 : decode cX4_nextToken 38 = .ok (.aload_n 0, 1) := by decide +kernel
theorem dX4_nextToken_39 : decode cX4_nextToken 39 = .ok (.aload_n 0, 1) := by decide +kernel
theorem dX4_nextToken_40 : decode cX4_nextToken 40 = .ok (.getfield 19, 3) := by decide +kernel
theorem dX4_nextToken_43 : decode cX4_nextToken 43 = .ok (.putfield 25, 3) := by decide +kernel
theorem dX4_nextToken_46 : decode cX4_nextToken 46 = .ok (.aload_n 0, 1) := by decide +kernel
theorem dX4_nextToken_47 : decode cX4_nextToken 47 = .ok (.iconst 0, 1) := by decide +kernel
theorem dX4_nextToken_48 : decode cX4_nextToken 48 = .ok (.putfield 28, 3) := by decide +kernel
theorem dX4_nextToken_51 : decode cX4_nextToken 51 = .ok (.aload_n 0, 1) := by decide +kernel
theorem dX4_nextToken_52 : decode cX4_nextToken 52 = .ok (.getfield 19, 3) := by decide +kernel
theorem dX4_nextToken_55 : decode cX4_nextToken 55 = .ok (.aload_n 0, 1) := by decide +kernel
theorem dX4_nextToken_56 : decode cX4_nextToken 56 = .ok (.getfield 15, 3) := by decide +kernel
theorem dX4_nextToken_59 : decode cX4_nextToken 59 = .ok (.if_icmp .lt 11, 3) := by decide +kernel
theorem dX4_nextToken_62 : decode cX4_nextToken 62 = .ok (.aload_n 0, 1) := by decide +kernel
theorem dX4_nextToken_63 : decode cX4_nextToken 63 = .ok (.iconst 0, 1) := by decide +kernel
theorem dX4_nextToken_64 : decode cX4_nextToken 64 = .ok (.putfield 22, 3) := by decide +kernel
theorem dX4_nextToken_67 : decode cX4_nextToken 67 = .ok (.goto 80, 3) := by decide +kernel
theorem dX4_nextToken_70 : decode cX4_nextToken 70 = .ok (.aload_n 0, 1) := by decide +kernel
theorem dX4_nextToken_71 : decode cX4_nextToken 71 = .ok (.getfield 9, 3) := by decide +kernel
theorem dX4_nextToken_74 : decode cX4_nextToken 74 = .ok (.aload_n 0, 1) := by decide +kernel
theorem dX4_nextToken_75 : decode cX4_nextToken 75 = .ok (.getfield 19, 3) := by decide +kernel
theorem dX4_nextToken_78 : decode cX4_nextToken 78 = .ok (.iaload, 1) := by decide +kernel
theorem dX4_nextToken_79 : decode cX4_nextToken 79 = .ok (.invokestatic 134, 3) := by decide +kernel
theorem dX4_nextToken_82 : decode cX4_nextToken 82 = .ok (.ifCond .eq 10, 3) := by decide +kernel
theorem dX4_nextToken_85 : decode cX4_nextToken 85 = .ok (.aload_n 0, 1) := by decide +kernel
theorem dX4_nextToken_86 : decode cX4_nextToken 86 = .ok (.invokevirtual 138, 3) := by decide +kernel
theorem dX4_nextToken_89 : decode cX4_nextToken 89 = .ok (.goto 58, 3) := by decide +kernel
theorem dX4_nextToken_92 : decode cX4_nextToken 92 = .ok (.aload_n 0, 1) := by decide +kernel
theorem dX4_nextToken_93 : decode cX4_nextToken 93 = .ok (.getfield 9, 3) := by decide +kernel
theorem dX4_nextToken_96 : decode cX4_nextToken 96 = .ok (.aload_n 0, 1) := by decide +kernel
theorem dX4_nextToken_97 : decode cX4_nextToken 97 = .ok (.getfield 19, 3) := by decide +kernel
theorem dX4_nextToken_100 : decode cX4_nextToken 100 = .ok (.iaload, 1) := by decide +kernel
theorem dX4_nextToken_101 : decode cX4_nextToken 101 = .ok (.invokestatic 141, 3) := by decide +kernel
theorem dX4_nextToken_104 : decode cX4_nextToken 104 = .ok (.ifCond .eq 10, 3) := by decide +kernel
theorem dX4_nextToken_107 : decode cX4_nextToken 107 = .ok (.aload_n 0, 1) := by decide +kernel
theorem dX4_nextToken_108 : decode cX4_nextToken 108 = .ok (.invokevirtual 144, 3) := by decide +kernel
theorem dX4_nextToken_111 : decode cX4_nextToken 111 = .ok (.goto 36, 3) := by decide +kernel
theorem dX4_nextToken_114 : decode cX4_nextToken 114 = .ok (.aload_n 0, 1) := by decide +kernel
theorem dX4_nextToken_115 : decode cX4_nextToken 115 = .ok (.aload_n 0, 1) := by decide +kernel
theorem dX4_nextToken_116 : decode cX4_nextToken 116 = .ok (.getfield 9, 3) := by decide +kernel
theorem dX4_nextToken_119 : decode cX4_nextToken 119 = .ok (.aload_n 0, 1) := by decide +kernel
theorem dX4_nextToken_120 : decode cX4_nextToken 120 = .ok (.getfield 19, 3) := by decide +kernel
theorem dX4_nextToken_123 : decode cX4_nextToken 123 = .ok (.iaload, 1) := by decide +kernel
theorem dX4_nextToken_124 : decode cX4_nextToken 124 = .ok (.bipush 59, 2) := by decide +kernel
theorem dX4_nextToken_126 : decode cX4_nextToken 126 = .ok (.if_icmp .ne 7, 3) := by decide +kernel
theorem dX4_nextToken_129 : decode cX4_nextToken 129 = .ok (.iconst 3, 1) := by decide +kernel
theorem dX4_nextToken_130 : decode cX4_nextToken 130 = .ok (.goto 4, 3) := by decide +kernel
theorem dX4_nextToken_133 : decode cX4_nextToken 133 = .ok (.iconst 4, 1) := by decide +kernel
theorem dX4_nextToken_134 : decode cX4_nextToken 134 = .ok (.putfield 22, 3) := by decide +kernel
theorem dX4_nextToken_137 : decode cX4_nextToken 137 = .ok (.aload_n 0, 1) := by decide +kernel
theorem dX4_nextToken_138 : decode cX4_nextToken 138 = .ok (.dup, 1) := by decide +kernel
theorem dX4_nextToken_139 : decode cX4_nextToken 139 = .ok (.getfield 19, 3) := by decide +kernel
theorem dX4_nextToken_142 : decode cX4_nextToken 142 = .ok (.iconst 1, 1) := by decide +kernel
theorem dX4_nextToken_143 : decode cX4_nextToken 143 = .ok (.iadd, 1) := by decide +kernel
theorem dX4_nextToken_144 : decode cX4_nextToken 144 = .ok (.putfield 19, 3) := by decide +kernel
theorem dX4_nextToken_147 : decode cX4_nextToken 147 = .ok (.return_, 1) := by decide +kernel
theorem dX4_readLetters_0 : decode cX4_readLetters 0 = .ok (.aload_n 0, 1) := by decide +kernel
theorem dX4_readLetters_1 : decode cX4_readLetters 1 = .ok (.iconst 1, 1) := by decide +kernel
theorem dX4_readLetters_2 : decode cX4_readLetters 2 = .ok (.putfield 22, 3) := by decide +kernel
theorem dX4_readLetters_5 : decode cX4_readLetters 5 = .ok (.aload_n 0, 1) := by decide +kernel
theorem dX4_readLetters_6 : decode cX4_readLetters 6 = .ok (.getfield 19, 3) := by decide +kernel
theorem dX4_readLetters_9 : decode cX4_readLetters 9 = .ok (.aload_n 0, 1) := by decide +kernel
theorem dX4_readLetters_10 : decode cX4_readLetters 10 = .ok (.getfield 15, 3) := by decide +kernel
theorem dX4_readLetters_13 : decode cX4_readLetters 13 = .ok (.if_icmp .ge 59, 3) := by decide +kernel
theorem dX4_readLetters_16 : decode cX4_readLetters 16 = .ok (.aload_n 0, 1) := by decide +kernel
theorem dX4_readLetters_17 : decode cX4_readLetters 17 = .ok (.getfield 9, 3) := by decide +kernel
theorem dX4_readLetters_20 : decode cX4_readLetters 20 = .ok (.aload_n 0, 1) := by decide +kernel
theorem dX4_readLetters_21 : decode cX4_readLetters 21 = .ok (.getfield 19, 3) := by decide +kernel
theorem dX4_readLetters_24 : decode cX4_readLetters 24 = .ok (.iaload, 1) := by decide +kernel
theorem dX4_readLetters_25 : decode cX4_readLetters 25 = .ok (.invokestatic 134, 3) := by decide +kernel
theorem dX4_readLetters_28 : decode cX4_readLetters 28 = .ok (.ifCond .eq 44, 3) := by decide +kernel
theorem dX4_readLetters_31 : decode cX4_readLetters 31 = .ok (.aload_n 0, 1) := by decide +kernel
theorem dX4_readLetters_32 : decode cX4_readLetters 32 = .ok (.aload_n 0, 1) := by decide +kernel
theorem dX4_readLetters_33 : decode cX4_readLetters 33 = .ok (.getfield 19, 3) := by decide +kernel
theorem dX4_readLetters_36 : decode cX4_readLetters 36 = .ok (.aload_n 0, 1) := by decide +kernel
theorem dX4_readLetters_37 : decode cX4_readLetters 37 = .ok (.getfield 25, 3) := by decide +kernel
theorem dX4_readLetters_40 : decode cX4_readLetters 40 = .ok (.if_icmp .ne 15, 3) := by decide +kernel
theorem dX4_readLetters_43 : decode cX4_readLetters 43 = .ok (.aload_n 0, 1) := by decide +kernel
theorem dX4_readLetters_44 : decode cX4_readLetters 44 = .ok (.getfield 9, 3) := by decide +kernel
theorem dX4_readLetters_47 : decode cX4_readLetters 47 = .ok (.aload_n 0, 1) := by decide +kernel
theorem dX4_readLetters_48 : decode cX4_readLetters 48 = .ok (.getfield 19, 3) := by decide +kernel
theorem dX4_readLetters_51 : decode cX4_readLetters 51 = .ok (.iaload, 1) := by decide +kernel
theorem dX4_readLetters_52 : decode cX4_readLetters 52 = .ok (.goto 4, 3) := by decide +kernel
theorem dX4_readLetters_55 : decode cX4_readLetters 55 = .ok (.iconst 0, 1) := by decide +kernel
theorem dX4_readLetters_56 : decode cX4_readLetters 56 = .ok (.putfield 28, 3) := by decide +kernel
theorem dX4_readLetters_59 : decode cX4_readLetters 59 = .ok (.aload_n 0, 1) := by decide +kernel
theorem dX4_readLetters_60 : decode cX4_readLetters 60 = .ok (.dup, 1) := by decide +kernel
theorem dX4_readLetters_61 : decode cX4_readLetters 61 = .ok (.getfield 19, 3) := by decide +kernel
theorem dX4_readLetters_64 : decode cX4_readLetters 64 = .ok (.iconst 1, 1) := by decide +kernel
theorem dX4_readLetters_65 : decode cX4_readLetters 65 = .ok (.iadd, 1) := by decide +kernel
theorem dX4_readLetters_66 : decode cX4_readLetters 66 = .ok (.putfield 19, 3) := by decide +kernel
theorem dX4_readLetters_69 : decode cX4_readLetters 69 = .ok (.goto (-64), 3) := by decide +kernel
theorem dX4_readLetters_72 : decode cX4_readLetters 72 = .ok (.return_, 1) := by decide +kernel
theorem dX4_readNumber_0 : decode cX4_readNumber 0 = .ok (.aload_n 0, 1) := by decide +kernel
theorem dX4_readNumber_1 : decode cX4_readNumber 1 = .ok (.getfield 19, 3) := by decide +kernel
theorem dX4_readNumber_4 : decode cX4_readNumber 4 = .ok (.aload_n 0, 1) := by decide +kernel
theorem dX4_readNumber_5 : decode cX4_readNumber 5 = .ok (.getfield 15, 3) := by decide +kernel
theorem dX4_readNumber_8 : decode cX4_readNumber 8 = .ok (.if_icmp .ge 64, 3) := by decide +kernel
theorem dX4_readNumber_11 : decode cX4_readNumber 11 = .ok (.aload_n 0, 1) := by decide +kernel
theorem dX4_readNumber_12 : decode cX4_readNumber 12 = .ok (.getfield 9, 3) := by decide +kernel
theorem dX4_readNumber_15 : decode cX4_readNumber 15 = .ok (.aload_n 0, 1) := by decide +kernel
theorem dX4_readNumber_16 : decode cX4_readNumber 16 = .ok (.getfield 19, 3) := by decide +kernel
theorem dX4_readNumber_19 : decode cX4_readNumber 19 = .ok (.iaload, 1) := by decide +kernel
theorem dX4_readNumber_20 : decode cX4_readNumber 20 = .ok (.invokestatic 141, 3) := by decide +kernel
theorem dX4_readNumber_23 : decode cX4_readNumber 23 = .ok (.ifCond .eq 49, 3) := by decide +kernel
theorem dX4_readNumber_26 : decode cX4_readNumber 26 = .ok (.aload_n 0, 1) := by decide +kernel
theorem dX4_readNumber_27 : decode cX4_readNumber 27 = .ok (.getfield 28, 3) := by decide +kernel
theorem dX4_readNumber_30 : decode cX4_readNumber 30 = .ok (.bipush 99, 2) := by decide +kernel
theorem dX4_readNumber_32 : decode cX4_readNumber 32 = .ok (.if_icmp .gt 27, 3) := by decide +kernel
theorem dX4_readNumber_35 : decode cX4_readNumber 35 = .ok (.aload_n 0, 1) := by decide +kernel
theorem dX4_readNumber_36 : decode cX4_readNumber 36 = .ok (.aload_n 0, 1) := by decide +kernel
theorem dX4_readNumber_37 : decode cX4_readNumber 37 = .ok (.getfield 28, 3) := by decide +kernel
theorem dX4_readNumber_40 : decode cX4_readNumber 40 = .ok (.bipush 10, 2) := by decide +kernel
theorem dX4_readNumber_42 : decode cX4_readNumber 42 = .ok (.imul, 1) := by decide +kernel
theorem dX4_readNumber_43 : decode cX4_readNumber 43 = .ok (.aload_n 0, 1) := by decide +kernel
theorem dX4_readNumber_44 : decode cX4_readNumber 44 = .ok (.getfield 9, 3) := by decide +kernel
theorem dX4_readNumber_47 : decode cX4_readNumber 47 = .ok (.aload_n 0, 1) := by decide +kernel
theorem dX4_readNumber_48 : decode cX4_readNumber 48 = .ok (.getfield 19, 3) := by decide +kernel
theorem dX4_readNumber_51 : decode cX4_readNumber 51 = .ok (.iaload, 1) := by decide +kernel
theorem dX4_readNumber_52 : decode cX4_readNumber 52 = .ok (.iadd, 1) := by decide +kernel
theorem dX4_readNumber_53 : decode cX4_readNumber 53 = .ok (.bipush 48, 2) := by decide +kernel
theorem dX4_readNumber_55 : decode cX4_readNumber 55 = .ok (.isub, 1) := by decide +kernel
theorem dX4_readNumber_56 : decode cX4_readNumber 56 = .ok (.putfield 28, 3) := by decide +kernel
theorem dX4_readNumber_59 : decode cX4_readNumber 59 = .ok (.aload_n 0, 1) := by decide +kernel
theorem dX4_readNumber_60 : decode cX4_readNumber 60 = .ok (.dup, 1) := by decide +kernel
theorem dX4_readNumber_61 : decode cX4_readNumber 61 = .ok (.getfield 19, 3) := by decide +kernel
theorem dX4_readNumber_64 : decode cX4_readNumber 64 = .ok (.iconst 1, 1) := by decide +kernel
theorem dX4_readNumber_65 : decode cX4_readNumber 65 = .ok (.iadd, 1) := by decide +kernel
theorem dX4_readNumber_66 : decode cX4_readNumber 66 = .ok (.putfield 19, 3) := by decide +kernel
theorem dX4_readNumber_69 : decode cX4_readNumber 69 = .ok (.goto (-69), 3) := by decide +kernel
theorem dX4_readNumber_72 : decode cX4_readNumber 72 = .ok (.aload_n 0, 1) := by decide +kernel
theorem dX4_readNumber_73 : decode cX4_readNumber 73 = .ok (.getfield 9, 3) := by decide +kernel
theorem dX4_readNumber_76 : decode cX4_readNumber 76 = .ok (.aload_n 0, 1) := by decide +kernel
theorem dX4_readNumber_77 : decode cX4_readNumber 77 = .ok (.getfield 25, 3) := by decide +kernel
theorem dX4_readNumber_80 : decode cX4_readNumber 80 = .ok (.iaload, 1) := by decide +kernel
theorem dX4_readNumber_81 : decode cX4_readNumber 81 = .ok (.bipush 48, 2) := by decide +kernel
theorem dX4_readNumber_83 : decode cX4_readNumber 83 = .ok (.if_icmp .ne 20, 3) := by decide +kernel
theorem dX4_readNumber_86 : decode cX4_readNumber 86 = .ok (.aload_n 0, 1) := by decide +kernel
theorem dX4_readNumber_87 : decode cX4_readNumber 87 = .ok (.getfield 19, 3) := by decide +kernel
theorem dX4_readNumber_90 : decode cX4_readNumber 90 = .ok (.aload_n 0, 1) := by decide +kernel
theorem dX4_readNumber_91 : decode cX4_readNumber 91 = .ok (.getfield 25, 3) := by decide +kernel
theorem dX4_readNumber_94 : decode cX4_readNumber 94 = .ok (.isub, 1) := by decide +kernel
theorem dX4_readNumber_95 : decode cX4_readNumber 95 = .ok (.iconst 1, 1) := by decide +kernel
theorem dX4_readNumber_96 : decode cX4_readNumber 96 = .ok (.if_icmp .le 7, 3) := by decide +kernel
theorem dX4_readNumber_99 : decode cX4_readNumber 99 = .ok (.iconst 1, 1) := by decide +kernel
theorem dX4_readNumber_100 : decode cX4_readNumber 100 = .ok (.goto 4, 3) := by decide +kernel
theorem dX4_readNumber_103 : decode cX4_readNumber 103 = .ok (.iconst 0, 1) := by decide +kernel
theorem dX4_readNumber_104 : decode cX4_readNumber 104 = .ok (.istore_n 1, 1) := by decide +kernel
theorem dX4_readNumber_105 : decode cX4_readNumber 105 = .ok (.aload_n 0, 1) := by decide +kernel
theorem dX4_readNumber_106 : decode cX4_readNumber 106 = .ok (.iload_n 1, 1) := by decide +kernel
theorem dX4_readNumber_107 : decode cX4_readNumber 107 = .ok (.ifCond .ne 12, 3) := by decide +kernel
theorem dX4_readNumber_110 : decode cX4_readNumber 110 = .ok (.aload_n 0, 1) := by decide +kernel
theorem dX4_readNumber_111 : decode cX4_readNumber 111 = .ok (.getfield 28, 3) := by decide +kernel
theorem dX4_readNumber_114 : decode cX4_readNumber 114 = .ok (.bipush 99, 2) := by decide +kernel
theorem dX4_readNumber_116 : decode cX4_readNumber 116 = .ok (.if_icmp .le 7, 3) := by decide +kernel
theorem dX4_readNumber_119 : decode cX4_readNumber 119 = .ok (.iconst 4, 1) := by decide +kernel
theorem dX4_readNumber_120 : decode cX4_readNumber 120 = .ok (.goto 4, 3) := by decide +kernel
theorem dX4_readNumber_123 : decode cX4_readNumber 123 = .ok (.iconst 2, 1) := by decide +kernel
theorem dX4_readNumber_124 : decode cX4_readNumber 124 = .ok (.putfield 22, 3) := by decide +kernel
theorem dX4_readNumber_127 : decode cX4_readNumber 127 = .ok (.return_, 1) := by decide +kernel
theorem dX4_isLetter_0 : decode cX4_isLetter 0 = .ok (.iload_n 0, 1) := by decide +kernel
theorem dX4_isLetter_1 : decode cX4_isLetter 1 = .ok (.bipush 97, 2) := by decide +kernel
theorem dX4_isLetter_3 : decode cX4_isLetter 3 = .ok (.if_icmp .lt 13, 3) := by decide +kernel
theorem dX4_isLetter_6 : decode cX4_isLetter 6 = .ok (.iload_n 0, 1) := by decide +kernel
theorem dX4_isLetter_7 : decode cX4_isLetter 7 = .ok (.bipush 122, 2) := by decide +kernel
theorem dX4_isLetter_9 : decode cX4_isLetter 9 = .ok (.if_icmp .gt 7, 3) := by decide +kernel
theorem dX4_isLetter_12 : decode cX4_isLetter 12 = .ok (.iconst 1, 1) := by decide +kernel
theorem dX4_isLetter_13 : decode cX4_isLetter 13 = .ok (.goto 4, 3) := by decide +kernel
theorem dX4_isLetter_16 : decode cX4_isLetter 16 = .ok (.iconst 0, 1) := by decide +kernel
theorem dX4_isLetter_17 : decode cX4_isLetter 17 = .ok (.ireturn, 1) := by decide +kernel
theorem dX4_isDigit_0 : decode cX4_isDigit 0 = .ok (.iload_n 0, 1) := by decide +kernel
theorem dX4_isDigit_1 : decode cX4_isDigit 1 = .ok (.bipush 48, 2) := by decide +kernel
theorem dX4_isDigit_3 : decode cX4_isDigit 3 = .ok (.if_icmp .lt 13, 3) := by decide +kernel
theorem dX4_isDigit_6 : decode cX4_isDigit 6 = .ok (.iload_n 0, 1) := by decide +kernel
theorem dX4_isDigit_7 : decode cX4_isDigit 7 = .ok (.bipush 57, 2) := by decide +kernel
theorem dX4_isDigit_9 : decode cX4_isDigit 9 = .ok (.if_icmp .gt 7, 3) := by decide +kernel
theorem dX4_isDigit_12 : decode cX4_isDigit 12 = .ok (.iconst 1, 1) := by decide +kernel
theorem dX4_isDigit_13 : decode cX4_isDigit 13 = .ok (.goto 4, 3) := by decide +kernel
theorem dX4_isDigit_16 : decode cX4_isDigit 16 = .ok (.iconst 0, 1) := by decide +kernel
theorem dX4_isDigit_17 : decode cX4_isDigit 17 = .ok (.ireturn, 1) := by decide +kernel
theorem dX5_init_0 : decode cX5_init 0 = .ok (.aload_n 0, 1) := by decide +kernel
theorem dX5_init_1 : decode cX5_init 1 = .ok (.invokespecial 3, 3) := by decide +kernel
theorem dX5_init_4 : decode cX5_init 4 = .ok (.aload_n 0, 1) := by decide +kernel
theorem dX5_init_5 : decode cX5_init 5 = .ok (.bipush 12, 2) := by decide +kernel
theorem dX5_init_7 : decode cX5_init 7 = .ok (.putfield 9, 3) := by decide +kernel
theorem dX5_init_10 : decode cX5_init 10 = .ok (.aload_n 0, 1) := by decide +kernel
theorem dX5_init_11 : decode cX5_init 11 = .ok (.iconst 0, 1) := by decide +kernel
theorem dX5_init_12 : decode cX5_init 12 = .ok (.putfield 15, 3) := by decide +kernel
theorem dX5_init_15 : decode cX5_init 15 = .ok (.aload_n 0, 1) := by decide +kernel
theorem dX5_init_16 : decode cX5_init 16 = .ok (.iconst 0, 1) := by decide +kernel
theorem dX5_init_17 : decode cX5_init 17 = .ok (.putfield 18, 3) := by decide +kernel
theorem dX5_init_20 : decode cX5_init 20 = .ok (.aload_n 0, 1) := by decide +kernel
theorem dX5_init_21 : decode cX5_init 21 = .ok (.iconst 0, 1) := by decide +kernel
theorem dX5_init_22 : decode cX5_init 22 = .ok (.putfield 21, 3) := by decide +kernel
theorem dX5_init_25 : decode cX5_init 25 = .ok (.aload_n 0, 1) := by decide +kernel
theorem dX5_init_26 : decode cX5_init 26 = .ok (.iconst 0, 1) := by decide +kernel
theorem dX5_init_27 : decode cX5_init 27 = .ok (.putfield 24, 3) := by decide +kernel
theorem dX5_init_30 : decode cX5_init 30 = .ok (.aload_n 0, 1) := by decide +kernel
theorem dX5_init_31 : decode cX5_init 31 = .ok (.iconst 1, 1) := by decide +kernel
theorem dX5_init_32 : decode cX5_init 32 = .ok (.putfield 27, 3) := by decide +kernel
theorem dX5_init_35 : decode cX5_init 35 = .ok (.aload_n 0, 1) := by decide +kernel
theorem dX5_init_36 : decode cX5_init 36 = .ok (.bipush 6, 2) := by decide +kernel
theorem dX5_init_38 : decode cX5_init 38 = .ok (.newarray .int, 2) := by decide +kernel
theorem dX5_init_40 : decode cX5_init 40 = .ok (.putfield 30, 3) := by decide +kernel
theorem dX5_init_43 : decode cX5_init 43 = .ok (.aload_n 0, 1) := by decide +kernel
theorem dX5_init_44 : decode cX5_init 44 = .ok (.bipush 6, 2) := by decide +kernel
theorem dX5_init_46 : decode cX5_init 46 = .ok (.newarray .int, 2) := by decide +kernel
theorem dX5_init_48 : decode cX5_init 48 = .ok (.putfield 34, 3) := by decide +kernel
theorem dX5_init_51 : decode cX5_init 51 = .ok (.aload_n 0, 1) := by decide +kernel
theorem dX5_init_52 : decode cX5_init 52 = .ok (.bipush 18, 2) := by decide +kernel
theorem dX5_init_54 : decode cX5_init 54 = .ok (.newarray .int, 2) := by decide +kernel
theorem dX5_init_56 : decode cX5_init 56 = .ok (.putfield 37, 3) := by decide +kernel
theorem dX5_init_59 : decode cX5_init 59 = .ok (.aload_n 0, 1) := by decide +kernel
theorem dX5_init_60 : decode cX5_init 60 = .ok (.iconst 3, 1) := by decide +kernel
theorem dX5_init_61 : decode cX5_init 61 = .ok (.newarray .int, 2) := by decide +kernel
theorem dX5_init_63 : decode cX5_init 63 = .ok (.putfield 40, 3) := by decide +kernel
theorem dX5_init_66 : decode cX5_init 66 = .ok (.aload_n 0, 1) := by decide +kernel
theorem dX5_init_67 : decode cX5_init 67 = .ok (.iconst 3, 1) := by decide +kernel
theorem dX5_init_68 : decode cX5_init 68 = .ok (.newarray .int, 2) := by decide +kernel
theorem dX5_init_70 : decode cX5_init 70 = .ok (.putfield 43, 3) := by decide +kernel
theorem dX5_init_73 : decode cX5_init 73 = .ok (.aload_n 0, 1) := by decide +kernel
theorem dX5_init_74 : decode cX5_init 74 = .ok (.iconst 3, 1) := by decide +kernel
theorem dX5_init_75 : decode cX5_init 75 = .ok (.newarray .int, 2) := by decide +kernel
theorem dX5_init_77 : decode cX5_init 77 = .ok (.putfield 46, 3) := by decide +kernel
theorem dX5_init_80 : decode cX5_init 80 = .ok (.aload_n 0, 1) := by decide +kernel
theorem dX5_init_81 : decode cX5_init 81 = .ok (.iconst 4, 1) := by decide +kernel
theorem dX5_init_82 : decode cX5_init 82 = .ok (.newarray .int, 2) := by decide +kernel
theorem dX5_init_84 : decode cX5_init 84 = .ok (.putfield 49, 3) := by decide +kernel
theorem dX5_init_87 : decode cX5_init 87 = .ok (.aload_n 0, 1) := by decide +kernel
theorem dX5_init_88 : decode cX5_init 88 = .ok (.iconst 4, 1) := by decide +kernel
theorem dX5_init_89 : decode cX5_init 89 = .ok (.newarray .int, 2) := by decide +kernel
theorem dX5_init_91 : decode cX5_init 91 = .ok (.putfield 52, 3) := by decide +kernel
theorem dX5_init_94 : decode cX5_init 94 = .ok (.return_, 1) := by decide +kernel
theorem dX5_reset_0 : decode cX5_reset 0 = .ok (.aload_n 0, 1) := by decide +kernel
theorem dX5_reset_1 : decode cX5_reset 1 = .ok (.bipush 12, 2) := by decide +kernel
theorem dX5_reset_3 : decode cX5_reset 3 = .ok (.putfield 9, 3) := by decide +kernel
theorem dX5_reset_6 : decode cX5_reset 6 = .ok (.aload_n 0, 1) := by decide +kernel
theorem dX5_reset_7 : decode cX5_reset 7 = .ok (.iconst 0, 1) := by decide +kernel
theorem dX5_reset_8 : decode cX5_reset 8 = .ok (.putfield 15, 3) := by decide +kernel
theorem dX5_reset_11 : decode cX5_reset 11 = .ok (.aload_n 0, 1) := by decide +kernel
theorem dX5_reset_12 : decode cX5_reset 12 = .ok (.iconst 0, 1) := by decide +kernel
theorem dX5_reset_13 : decode cX5_reset 13 = .ok (.putfield 18, 3) := by decide +kernel
theorem dX5_reset_16 : decode cX5_reset 16 = .ok (.aload_n 0, 1) := by decide +kernel
theorem dX5_reset_17 : decode cX5_reset 17 = .ok (.iconst 0, 1) := by decide +kernel
theorem dX5_reset_18 : decode cX5_reset 18 = .ok (.putfield 21, 3) := by decide +kernel
theorem dX5_reset_21 : decode cX5_reset 21 = .ok (.aload_n 0, 1) := by decide +kernel
theorem dX5_reset_22 : decode cX5_reset 22 = .ok (.iconst 0, 1) := by decide +kernel
theorem dX5_reset_23 : decode cX5_reset 23 = .ok (.putfield 24, 3) := by decide +kernel
theorem dX5_reset_26 : decode cX5_reset 26 = .ok (.aload_n 0, 1) := by decide +kernel
theorem dX5_reset_27 : decode cX5_reset 27 = .ok (.iconst 1, 1) := by decide +kernel
theorem dX5_reset_28 : decode cX5_reset 28 = .ok (.putfield 27, 3) := by decide +kernel
theorem dX5_reset_31 : decode cX5_reset 31 = .ok (.return_, 1) := by decide +kernel
theorem dX5_beginning_0 : decode cX5_beginning 0 = .ok (.aload_n 0, 1) := by decide +kernel
theorem dX5_beginning_1 : decode cX5_beginning 1 = .ok (.getfield 18, 3) := by decide +kernel
theorem dX5_beginning_4 : decode cX5_beginning 4 = .ok (.aload_n 0, 1) := by decide +kernel
theorem dX5_beginning_5 : decode cX5_beginning 5 = .ok (.getfield 15, 3) := by decide +kernel
theorem dX5_beginning_8 : decode cX5_beginning 8 = .ok (.if_icmp .ge 10, 3) := by decide +kernel
theorem dX5_beginning_11 : decode cX5_beginning 11 = .ok (.aload_n 0, 1) := by decide +kernel
theorem dX5_beginning_12 : decode cX5_beginning 12 = .ok (.getfield 18, 3) := by decide +kernel
theorem dX5_beginning_15 : decode cX5_beginning 15 = .ok (.goto 4, 3) := by decide +kernel
theorem dX5_beginning_18 : decode cX5_beginning 18 = .ok (.iconst 0, 1) := by decide +kernel
theorem dX5_beginning_19 : decode cX5_beginning 19 = .ok (.ireturn, 1) := by decide +kernel
theorem dX6_init_0 : decode cX6_init 0 = .ok (.aload_n 0, 1) := by decide +kernel
theorem dX6_init_1 : decode cX6_init 1 = .ok (.invokespecial 1, 3) := by decide +kernel
theorem dX6_init_4 : decode cX6_init 4 = .ok (.aload_n 0, 1) := by decide +kernel
theorem dX6_init_5 : decode cX6_init 5 = .ok (.sipush 200, 3) := by decide +kernel
theorem dX6_init_8 : decode cX6_init 8 = .ok (.newarray .int, 2) := by decide +kernel
theorem dX6_init_10 : decode cX6_init 10 = .ok (.putfield 9, 3) := by decide +kernel
theorem dX6_init_13 : decode cX6_init 13 = .ok (.aload_n 0, 1) := by decide +kernel
theorem dX6_init_14 : decode cX6_init 14 = .ok (.iconst 0, 1) := by decide +kernel
theorem dX6_init_15 : decode cX6_init 15 = .ok (.putfield 13, 3) := by decide +kernel
theorem dX6_init_18 : decode cX6_init 18 = .ok (.aload_n 0, 1) := by decide +kernel
theorem dX6_init_19 : decode cX6_init 19 = .ok (.new 17, 3) := by decide +kernel
theorem dX6_init_22 : decode cX6_init 22 = .ok (.dup, 1) := by decide +kernel
theorem dX6_init_23 : decode cX6_init 23 = .ok (.invokespecial 19, 3) := by decide +kernel
theorem dX6_init_26 : decode cX6_init 26 = .ok (.putfield 20, 3) := by decide +kernel
theorem dX6_init_29 : decode cX6_init 29 = .ok (.aload_n 0, 1) := by decide +kernel
theorem dX6_init_30 : decode cX6_init 30 = .ok (.new 17, 3) := by decide +kernel
theorem dX6_init_33 : decode cX6_init 33 = .ok (.dup, 1) := by decide +kernel
theorem dX6_init_34 : decode cX6_init 34 = .ok (.invokespecial 19, 3) := by decide +kernel
theorem dX6_init_37 : decode cX6_init 37 = .ok (.putfield 24, 3) := by decide +kernel
theorem dX6_init_40 : decode cX6_init 40 = .ok (.aload_n 0, 1) := by decide +kernel
theorem dX6_init_41 : decode cX6_init 41 = .ok (.new 27, 3) := by decide +kernel
theorem dX6_init_44 : decode cX6_init 44 = .ok (.dup, 1) := by decide +kernel
theorem dX6_init_45 : decode cX6_init 45 = .ok (.invokespecial 29, 3) := by decide +kernel
theorem dX6_init_48 : decode cX6_init 48 = .ok (.putfield 30, 3) := by decide +kernel
theorem dX6_init_51 : decode cX6_init 51 = .ok (.aload_n 0, 1) := by decide +kernel
theorem dX6_init_52 : decode cX6_init 52 = .ok (.new 34, 3) := by decide +kernel
theorem dX6_init_55 : decode cX6_init 55 = .ok (.dup, 1) := by decide +kernel
theorem dX6_init_56 : decode cX6_init 56 = .ok (.invokespecial 36, 3) := by decide +kernel
theorem dX6_init_59 : decode cX6_init 59 = .ok (.putfield 37, 3) := by decide +kernel
theorem dX6_init_62 : decode cX6_init 62 = .ok (.aload_n 0, 1) := by decide +kernel
theorem dX6_init_63 : decode cX6_init 63 = .ok (.new 41, 3) := by decide +kernel
theorem dX6_init_66 : decode cX6_init 66 = .ok (.dup, 1) := by decide +kernel
theorem dX6_init_67 : decode cX6_init 67 = .ok (.invokespecial 43, 3) := by decide +kernel
theorem dX6_init_70 : decode cX6_init 70 = .ok (.putfield 44, 3) := by decide +kernel
theorem dX6_init_73 : decode cX6_init 73 = .ok (.aload_n 0, 1) := by decide +kernel
theorem dX6_init_74 : decode cX6_init 74 = .ok (.new 48, 3) := by decide +kernel
theorem dX6_init_77 : decode cX6_init 77 = .ok (.dup, 1) := by decide +kernel
theorem dX6_init_78 : decode cX6_init 78 = .ok (.invokespecial 50, 3) := by decide +kernel
theorem dX6_init_81 : decode cX6_init 81 = .ok (.putfield 51, 3) := by decide +kernel
theorem dX6_init_84 : decode cX6_init 84 = .ok (.aload_n 0, 1) := by decide +kernel
theorem dX6_init_85 : decode cX6_init 85 = .ok (.iconst 2, 1) := by decide +kernel
theorem dX6_init_86 : decode cX6_init 86 = .ok (.anewarray 48, 3) := by decide +kernel
theorem dX6_init_89 : decode cX6_init 89 = .ok (.putfield 55, 3) := by decide +kernel
theorem dX6_init_92 : decode cX6_init 92 = .ok (.aload_n 0, 1) := by decide +kernel
theorem dX6_init_93 : decode cX6_init 93 = .ok (.iconst 2, 1) := by decide +kernel
theorem dX6_init_94 : decode cX6_init 94 = .ok (.newarray .boolean, 2) := by decide +kernel
theorem dX6_init_96 : decode cX6_init 96 = .ok (.putfield 59, 3) := by decide +kernel
theorem dX6_init_99 : decode cX6_init 99 = .ok (.aload_n 0, 1) := by decide +kernel
theorem dX6_init_100 : decode cX6_init 100 = .ok (.bipush 6, 2) := by decide +kernel
theorem dX6_init_102 : decode cX6_init 102 = .ok (.newarray .int, 2) := by decide +kernel
theorem dX6_init_104 : decode cX6_init 104 = .ok (.putfield 63, 3) := by decide +kernel
theorem dX6_init_107 : decode cX6_init 107 = .ok (.aload_n 0, 1) := by decide +kernel
theorem dX6_init_108 : decode cX6_init 108 = .ok (.bipush 6, 2) := by decide +kernel
theorem dX6_init_110 : decode cX6_init 110 = .ok (.newarray .int, 2) := by decide +kernel
theorem dX6_init_112 : decode cX6_init 112 = .ok (.putfield 66, 3) := by decide +kernel
theorem dX6_init_115 : decode cX6_init 115 = .ok (.aload_n 0, 1) := by decide +kernel
theorem dX6_init_116 : decode cX6_init 116 = .ok (.iconst 0, 1) := by decide +kernel
theorem dX6_init_117 : decode cX6_init 117 = .ok (.putfield 69, 3) := by decide +kernel
theorem dX6_init_120 : decode cX6_init 120 = .ok (.aload_n 0, 1) := by decide +kernel
theorem dX6_init_121 : decode cX6_init 121 = .ok (.lconst 0, 1) := by decide +kernel
theorem dX6_init_122 : decode cX6_init 122 = .ok (.putfield 72, 3) := by decide +kernel
theorem dX6_init_125 : decode cX6_init 125 = .ok (.iconst 0, 1) := by decide +kernel
theorem dX6_init_126 : decode cX6_init 126 = .ok (.istore_n 1, 1) := by decide +kernel
theorem dX6_init_127 : decode cX6_init 127 = .ok (.iload_n 1, 1) := by decide +kernel
theorem dX6_init_128 : decode cX6_init 128 = .ok (.iconst 2, 1) := by decide +kernel
theorem dX6_init_129 : decode cX6_init 129 = .ok (.if_icmp .ge 22, 3) := by decide +kernel
theorem dX6_init_132 : decode cX6_init 132 = .ok (.aload_n 0, 1) := by decide +kernel
theorem dX6_init_133 : decode cX6_init 133 = .ok (.getfield 55, 3) := by decide +kernel
theorem dX6_init_136 : decode cX6_init 136 = .ok (.iload_n 1, 1) := by decide +kernel
theorem dX6_init_137 : decode cX6_init 137 = .ok (.new 48, 3) := by decide +kernel
theorem dX6_init_140 : decode cX6_init 140 = .ok (.dup, 1) := by decide +kernel
theorem dX6_init_141 : decode cX6_init 141 = .ok (.invokespecial 50, 3) := by decide +kernel
theorem dX6_init_144 : decode cX6_init 144 = .ok (.aastore, 1) := by decide +kernel
theorem dX6_init_145 : decode cX6_init 145 = .ok (.iinc 1 1, 3) := by decide +kernel
theorem dX6_init_148 : decode cX6_init 148 = .ok (.goto (-21), 3) := by decide +kernel
theorem dX6_init_151 : decode cX6_init 151 = .ok (.return_, 1) := by decide +kernel
theorem dX6_type_0 : decode cX6_type 0 = .ok (.iload_n 1, 1) := by decide +kernel
theorem dX6_type_1 : decode cX6_type 1 = .ok (.ifCond .lt 10, 3) := by decide +kernel
theorem dX6_type_4 : decode cX6_type 4 = .ok (.iload_n 1, 1) := by decide +kernel
theorem dX6_type_5 : decode cX6_type 5 = .ok (.sipush 255, 3) := by decide +kernel
theorem dX6_type_8 : decode cX6_type 8 = .ok (.if_icmp .le 5, 3) := by decide +kernel
theorem dX6_type_11 : decode cX6_type 11 = .ok (.iconst (-1), 1) := by decide +kernel
theorem dX6_type_12 : decode cX6_type 12 = .ok (.ireturn, 1) := by decide +kernel
theorem dX6_type_13 : decode cX6_type 13 = .ok (.aload_n 0, 1) := by decide +kernel
theorem dX6_type_14 : decode cX6_type 14 = .ok (.getfield 13, 3) := by decide +kernel
theorem dX6_type_17 : decode cX6_type 17 = .ok (.sipush 200, 3) := by decide +kernel
theorem dX6_type_20 : decode cX6_type 20 = .ok (.if_icmp .lt 6, 3) := by decide +kernel
theorem dX6_type_23 : decode cX6_type 23 = .ok (.bipush (-3), 2) := by decide +kernel
theorem dX6_type_25 : decode cX6_type 25 = .ok (.ireturn, 1) := by decide +kernel
theorem dX6_type_26 : decode cX6_type 26 = .ok (.aload_n 0, 1) := by decide +kernel
theorem dX6_type_27 : decode cX6_type 27 = .ok (.getfield 9, 3) := by decide +kernel
theorem dX6_type_30 : decode cX6_type 30 = .ok (.aload_n 0, 1) := by decide +kernel
theorem dX6_type_31 : decode cX6_type 31 = .ok (.getfield 13, 3) := by decide +kernel
theorem dX6_type_34 : decode cX6_type 34 = .ok (.iload_n 1, 1) := by decide +kernel
theorem dX6_type_35 : decode cX6_type 35 = .ok (.iastore, 1) := by decide +kernel
theorem dX6_type_36 : decode cX6_type 36 = .ok (.aload_n 0, 1) := by decide +kernel
theorem dX6_type_37 : decode cX6_type 37 = .ok (.dup, 1) := by decide +kernel
theorem dX6_type_38 : decode cX6_type 38 = .ok (.getfield 13, 3) := by decide +kernel
theorem dX6_type_41 : decode cX6_type 41 = .ok (.iconst 1, 1) := by decide +kernel
theorem dX6_type_42 : decode cX6_type 42 = .ok (.iadd, 1) := by decide +kernel
theorem dX6_type_43 : decode cX6_type 43 = .ok (.putfield 13, 3) := by decide +kernel
theorem dX6_type_46 : decode cX6_type 46 = .ok (.aload_n 0, 1) := by decide +kernel
theorem dX6_type_47 : decode cX6_type 47 = .ok (.getfield 13, 3) := by decide +kernel
theorem dX6_type_50 : decode cX6_type 50 = .ok (.ireturn, 1) := by decide +kernel
theorem dX6_clear_0 : decode cX6_clear 0 = .ok (.aload_n 0, 1) := by decide +kernel
theorem dX6_clear_1 : decode cX6_clear 1 = .ok (.getfield 13, 3) := by decide +kernel
theorem dX6_clear_4 : decode cX6_clear 4 = .ok (.istore_n 1, 1) := by decide +kernel
theorem dX6_clear_5 : decode cX6_clear 5 = .ok (.aload_n 0, 1) := by decide +kernel
theorem dX6_clear_6 : decode cX6_clear 6 = .ok (.iconst 0, 1) := by decide +kernel
theorem dX6_clear_7 : decode cX6_clear 7 = .ok (.putfield 13, 3) := by decide +kernel
theorem dX6_clear_10 : decode cX6_clear 10 = .ok (.iload_n 1, 1) := by decide +kernel
theorem dX6_clear_11 : decode cX6_clear 11 = .ok (.ireturn, 1) := by decide +kernel
theorem dX6_court_0 : decode cX6_court 0 = .ok (.aload_n 0, 1) := by decide +kernel
theorem dX6_court_1 : decode cX6_court 1 = .ok (.getfield 24, 3) := by decide +kernel
theorem dX6_court_4 : decode cX6_court 4 = .ok (.invokevirtual 76, 3) := by decide +kernel
theorem dX6_court_7 : decode cX6_court 7 = .ok (.aload_n 0, 1) := by decide +kernel
theorem dX6_court_8 : decode cX6_court 8 = .ok (.getfield 30, 3) := by decide +kernel
theorem dX6_court_11 : decode cX6_court 11 = .ok (.aload_n 0, 1) := by decide +kernel
theorem dX6_court_12 : decode cX6_court 12 = .ok (.getfield 9, 3) := by decide +kernel
theorem dX6_court_15 : decode cX6_court 15 = .ok (.aload_n 0, 1) := by decide +kernel
theorem dX6_court_16 : decode cX6_court 16 = .ok (.getfield 13, 3) := by decide +kernel
theorem dX6_court_19 : decode cX6_court 19 = .ok (.aload_n 0, 1) := by decide +kernel
theorem dX6_court_20 : decode cX6_court 20 = .ok (.getfield 24, 3) := by decide +kernel
theorem dX6_court_23 : decode cX6_court 23 = .ok (.invokevirtual 79, 3) := by decide +kernel
theorem dX6_court_26 : decode cX6_court 26 = .ok (.istore_n 1, 1) := by decide +kernel
theorem dX6_court_27 : decode cX6_court 27 = .ok (.iload_n 1, 1) := by decide +kernel
theorem dX6_court_28 : decode cX6_court 28 = .ok (.ifCond .ge 5, 3) := by decide +kernel
theorem dX6_court_31 : decode cX6_court 31 = .ok (.iload_n 1, 1) := by decide +kernel
theorem dX6_court_32 : decode cX6_court 32 = .ok (.ireturn, 1) := by decide +kernel
theorem dX6_court_33 : decode cX6_court 33 = .ok (.aload_n 0, 1) := by decide +kernel
theorem dX6_court_34 : decode cX6_court 34 = .ok (.getfield 20, 3) := by decide +kernel
theorem dX6_court_37 : decode cX6_court 37 = .ok (.astore_n 2, 1) := by decide +kernel
theorem dX6_court_38 : decode cX6_court 38 = .ok (.aload_n 0, 1) := by decide +kernel
theorem dX6_court_39 : decode cX6_court 39 = .ok (.aload_n 0, 1) := by decide +kernel
theorem dX6_court_40 : decode cX6_court 40 = .ok (.getfield 24, 3) := by decide +kernel
theorem dX6_court_43 : decode cX6_court 43 = .ok (.putfield 20, 3) := by decide +kernel
theorem dX6_court_46 : decode cX6_court 46 = .ok (.aload_n 0, 1) := by decide +kernel
theorem dX6_court_47 : decode cX6_court 47 = .ok (.aload_n 2, 1) := by decide +kernel
theorem dX6_court_48 : decode cX6_court 48 = .ok (.putfield 24, 3) := by decide +kernel
theorem dX6_court_51 : decode cX6_court 51 = .ok (.aload_n 0, 1) := by decide +kernel
theorem dX6_court_52 : decode cX6_court 52 = .ok (.iconst 0, 1) := by decide +kernel
theorem dX6_court_53 : decode cX6_court 53 = .ok (.putfield 13, 3) := by decide +kernel
theorem dX6_court_56 : decode cX6_court 56 = .ok (.aload_n 0, 1) := by decide +kernel
theorem dX6_court_57 : decode cX6_court 57 = .ok (.iconst 0, 1) := by decide +kernel
theorem dX6_court_58 : decode cX6_court 58 = .ok (.putfield 69, 3) := by decide +kernel
theorem dX6_court_61 : decode cX6_court 61 = .ok (.aload_n 0, 1) := by decide +kernel
theorem dX6_court_62 : decode cX6_court 62 = .ok (.getfield 51, 3) := by decide +kernel
theorem dX6_court_65 : decode cX6_court 65 = .ok (.invokevirtual 83, 3) := by decide +kernel
theorem dX6_court_68 : decode cX6_court 68 = .ok (.iconst 0, 1) := by decide +kernel
theorem dX6_court_69 : decode cX6_court 69 = .ok (.istore_n 3, 1) := by decide +kernel
theorem dX6_court_70 : decode cX6_court 70 = .ok (.iload_n 3, 1) := by decide +kernel
theorem dX6_court_71 : decode cX6_court 71 = .ok (.iconst 2, 1) := by decide +kernel
theorem dX6_court_72 : decode cX6_court 72 = .ok (.if_icmp .ge 16, 3) := by decide +kernel
theorem dX6_court_75 : decode cX6_court 75 = .ok (.aload_n 0, 1) := by decide +kernel
theorem dX6_court_76 : decode cX6_court 76 = .ok (.getfield 59, 3) := by decide +kernel
theorem dX6_court_79 : decode cX6_court 79 = .ok (.iload_n 3, 1) := by decide +kernel
theorem dX6_court_80 : decode cX6_court 80 = .ok (.iconst 0, 1) := by decide +kernel
theorem dX6_court_81 : decode cX6_court 81 = .ok (.bastore, 1) := by decide +kernel
theorem dX6_court_82 : decode cX6_court 82 = .ok (.iinc 3 1, 3) := by decide +kernel
theorem dX6_court_85 : decode cX6_court 85 = .ok (.goto (-15), 3) := by decide +kernel
theorem dX6_court_88 : decode cX6_court 88 = .ok (.aload_n 0, 1) := by decide +kernel
theorem dX6_court_89 : decode cX6_court 89 = .ok (.getfield 44, 3) := by decide +kernel
theorem dX6_court_92 : decode cX6_court 92 = .ok (.invokevirtual 84, 3) := by decide +kernel
theorem dX6_court_95 : decode cX6_court 95 = .ok (.iload_n 1, 1) := by decide +kernel
theorem dX6_court_96 : decode cX6_court 96 = .ok (.ireturn, 1) := by decide +kernel
theorem dX6_state_0 : decode cX6_state 0 = .ok (.aload_n 0, 1) := by decide +kernel
theorem dX6_state_1 : decode cX6_state 1 = .ok (.iload_n 1, 1) := by decide +kernel
theorem dX6_state_2 : decode cX6_state 2 = .ok (.invokevirtual 87, 3) := by decide +kernel
theorem dX6_state_5 : decode cX6_state 5 = .ok (.ifCond .eq 12, 3) := by decide +kernel
theorem dX6_state_8 : decode cX6_state 8 = .ok (.iload_n 2, 1) := by decide +kernel
theorem dX6_state_9 : decode cX6_state 9 = .ok (.ifCond .lt 8, 3) := by decide +kernel
theorem dX6_state_12 : decode cX6_state 12 = .ok (.iload_n 2, 1) := by decide +kernel
theorem dX6_state_13 : decode cX6_state 13 = .ok (.iconst 4, 1) := by decide +kernel
theorem dX6_state_14 : decode cX6_state 14 = .ok (.if_icmp .le 6, 3) := by decide +kernel
theorem dX6_state_17 : decode cX6_state 17 = .ok (.ldc 91, 2) := by decide +kernel
theorem dX6_state_19 : decode cX6_state 19 = .ok (.ireturn, 1) := by decide +kernel
theorem dX6_state_20 : decode cX6_state 20 = .ok (.iload_n 2, 1) := by decide +kernel
theorem dX6_state_21 : decode cX6_state 21 = .ok (.ifCond .ne 13, 3) := by decide +kernel
theorem dX6_state_24 : decode cX6_state 24 = .ok (.aload_n 0, 1) := by decide +kernel
theorem dX6_state_25 : decode cX6_state 25 = .ok (.getfield 20, 3) := by decide +kernel
theorem dX6_state_28 : decode cX6_state 28 = .ok (.getfield 92, 3) := by decide +kernel
theorem dX6_state_31 : decode cX6_state 31 = .ok (.iload_n 1, 1) := by decide +kernel
theorem dX6_state_32 : decode cX6_state 32 = .ok (.iaload, 1) := by decide +kernel
theorem dX6_state_33 : decode cX6_state 33 = .ok (.ireturn, 1) := by decide +kernel
theorem dX6_state_34 : decode cX6_state 34 = .ok (.iload_n 2, 1) := by decide +kernel
theorem dX6_state_35 : decode cX6_state 35 = .ok (.iconst 1, 1) := by decide +kernel
theorem dX6_state_36 : decode cX6_state 36 = .ok (.if_icmp .ne 13, 3) := by decide +kernel
theorem dX6_state_39 : decode cX6_state 39 = .ok (.aload_n 0, 1) := by decide +kernel
theorem dX6_state_40 : decode cX6_state 40 = .ok (.getfield 20, 3) := by decide +kernel
theorem dX6_state_43 : decode cX6_state 43 = .ok (.getfield 95, 3) := by decide +kernel
theorem dX6_state_46 : decode cX6_state 46 = .ok (.iload_n 1, 1) := by decide +kernel
theorem dX6_state_47 : decode cX6_state 47 = .ok (.iaload, 1) := by decide +kernel
theorem dX6_state_48 : decode cX6_state 48 = .ok (.ireturn, 1) := by decide +kernel
theorem dX6_state_49 : decode cX6_state 49 = .ok (.aload_n 0, 1) := by decide +kernel
theorem dX6_state_50 : decode cX6_state 50 = .ok (.getfield 20, 3) := by decide +kernel
theorem dX6_state_53 : decode cX6_state 53 = .ok (.getfield 98, 3) := by decide +kernel
theorem dX6_state_56 : decode cX6_state 56 = .ok (.iload_n 1, 1) := by decide +kernel
theorem dX6_state_57 : decode cX6_state 57 = .ok (.iconst 3, 1) := by decide +kernel
theorem dX6_state_58 : decode cX6_state 58 = .ok (.imul, 1) := by decide +kernel
theorem dX6_state_59 : decode cX6_state 59 = .ok (.iload_n 2, 1) := by decide +kernel
theorem dX6_state_60 : decode cX6_state 60 = .ok (.iadd, 1) := by decide +kernel
theorem dX6_state_61 : decode cX6_state 61 = .ok (.iconst 2, 1) := by decide +kernel
theorem dX6_state_62 : decode cX6_state 62 = .ok (.isub, 1) := by decide +kernel
theorem dX6_state_63 : decode cX6_state 63 = .ok (.iaload, 1) := by decide +kernel
theorem dX6_state_64 : decode cX6_state 64 = .ok (.ireturn, 1) := by decide +kernel
theorem dX6_trial_0 : decode cX6_trial 0 = .ok (.aload_n 0, 1) := by decide +kernel
theorem dX6_trial_1 : decode cX6_trial 1 = .ok (.iload_n 1, 1) := by decide +kernel
theorem dX6_trial_2 : decode cX6_trial 2 = .ok (.invokevirtual 101, 3) := by decide +kernel
theorem dX6_trial_5 : decode cX6_trial 5 = .ok (.ifCond .ne 5, 3) := by decide +kernel
theorem dX6_trial_8 : decode cX6_trial 8 = .ok (.iconst (-1), 1) := by decide +kernel
theorem dX6_trial_9 : decode cX6_trial 9 = .ok (.ireturn, 1) := by decide +kernel
theorem dX6_trial_10 : decode cX6_trial 10 = .ok (.iload_n 2, 1) := by decide +kernel
theorem dX6_trial_11 : decode cX6_trial 11 = .ok (.tableswitch 55 0 2 #[25, 35, 45], 25) := by decide +kernel
theorem dX6_trial_36 : decode cX6_trial 36 = .ok (.aload_n 0, 1) := by decide +kernel
theorem dX6_trial_37 : decode cX6_trial 37 = .ok (.getfield 20, 3) := by decide +kernel
theorem dX6_trial_40 : decode cX6_trial 40 = .ok (.getfield 104, 3) := by decide +kernel
theorem dX6_trial_43 : decode cX6_trial 43 = .ok (.iload_n 1, 1) := by decide +kernel
theorem dX6_trial_44 : decode cX6_trial 44 = .ok (.iaload, 1) := by decide +kernel
theorem dX6_trial_45 : decode cX6_trial 45 = .ok (.ireturn, 1) := by decide +kernel
theorem dX6_trial_46 : decode cX6_trial 46 = .ok (.aload_n 0, 1) := by decide +kernel
theorem dX6_trial_47 : decode cX6_trial 47 = .ok (.getfield 20, 3) := by decide +kernel
theorem dX6_trial_50 : decode cX6_trial 50 = .ok (.getfield 107, 3) := by decide +kernel
theorem dX6_trial_53 : decode cX6_trial 53 = .ok (.iload_n 1, 1) := by decide +kernel
theorem dX6_trial_54 : decode cX6_trial 54 = .ok (.iaload, 1) := by decide +kernel
theorem dX6_trial_55 : decode cX6_trial 55 = .ok (.ireturn, 1) := by decide +kernel
theorem dX6_trial_56 : decode cX6_trial 56 = .ok (.aload_n 0, 1) := by decide +kernel
theorem dX6_trial_57 : decode cX6_trial 57 = .ok (.getfield 20, 3) := by decide +kernel
theorem dX6_trial_60 : decode cX6_trial 60 = .ok (.getfield 110, 3) := by decide +kernel
theorem dX6_trial_63 : decode cX6_trial 63 = .ok (.iload_n 1, 1) := by decide +kernel
theorem dX6_trial_64 : decode cX6_trial 64 = .ok (.iaload, 1) := by decide +kernel
theorem dX6_trial_65 : decode cX6_trial 65 = .ok (.ireturn, 1) := by decide +kernel
theorem dX6_trial_66 : decode cX6_trial 66 = .ok (.iconst (-1), 1) := by decide +kernel
theorem dX6_trial_67 : decode cX6_trial 67 = .ok (.ireturn, 1) := by decide +kernel
theorem dX6_deed_0 : decode cX6_deed 0 = .ok (.aload_n 0, 1) := by decide +kernel
theorem dX6_deed_1 : decode cX6_deed 1 = .ok (.iload_n 1, 1) := by decide +kernel
theorem dX6_deed_2 : decode cX6_deed 2 = .ok (.invokevirtual 113, 3) := by decide +kernel
theorem dX6_deed_5 : decode cX6_deed 5 = .ok (.ifCond .ne 5, 3) := by decide +kernel
theorem dX6_deed_8 : decode cX6_deed 8 = .ok (.iconst (-1), 1) := by decide +kernel
theorem dX6_deed_9 : decode cX6_deed 9 = .ok (.ireturn, 1) := by decide +kernel
theorem dX6_deed_10 : decode cX6_deed 10 = .ok (.iload_n 2, 1) := by decide +kernel
theorem dX6_deed_11 : decode cX6_deed 11 = .ok (.lookupswitch 45 #[(0, 25), (1, 35)], 25) := by decide +kernel
theorem dX6_deed_36 : decode cX6_deed 36 = .ok (.aload_n 0, 1) := by decide +kernel
theorem dX6_deed_37 : decode cX6_deed 37 = .ok (.getfield 20, 3) := by decide +kernel
theorem dX6_deed_40 : decode cX6_deed 40 = .ok (.getfield 116, 3) := by decide +kernel
theorem dX6_deed_43 : decode cX6_deed 43 = .ok (.iload_n 1, 1) := by decide +kernel
theorem dX6_deed_44 : decode cX6_deed 44 = .ok (.iaload, 1) := by decide +kernel
theorem dX6_deed_45 : decode cX6_deed 45 = .ok (.ireturn, 1) := by decide +kernel
theorem dX6_deed_46 : decode cX6_deed 46 = .ok (.aload_n 0, 1) := by decide +kernel
theorem dX6_deed_47 : decode cX6_deed 47 = .ok (.getfield 20, 3) := by decide +kernel
theorem dX6_deed_50 : decode cX6_deed 50 = .ok (.getfield 119, 3) := by decide +kernel
theorem dX6_deed_53 : decode cX6_deed 53 = .ok (.iload_n 1, 1) := by decide +kernel
theorem dX6_deed_54 : decode cX6_deed 54 = .ok (.iaload, 1) := by decide +kernel
theorem dX6_deed_55 : decode cX6_deed 55 = .ok (.ireturn, 1) := by decide +kernel
theorem dX6_deed_56 : decode cX6_deed 56 = .ok (.iconst (-1), 1) := by decide +kernel
theorem dX6_deed_57 : decode cX6_deed 57 = .ok (.ireturn, 1) := by decide +kernel
theorem dX6_does_0 : decode cX6_does 0 = .ok (.aload_n 0, 1) := by decide +kernel
theorem dX6_does_1 : decode cX6_does 1 = .ok (.iload_n 1, 1) := by decide +kernel
theorem dX6_does_2 : decode cX6_does 2 = .ok (.invokevirtual 122, 3) := by decide +kernel
theorem dX6_does_5 : decode cX6_does 5 = .ok (.ifCond .eq 11, 3) := by decide +kernel
theorem dX6_does_8 : decode cX6_does 8 = .ok (.aload_n 0, 1) := by decide +kernel
theorem dX6_does_9 : decode cX6_does 9 = .ok (.iload_n 2, 1) := by decide +kernel
theorem dX6_does_10 : decode cX6_does 10 = .ok (.invokevirtual 113, 3) := by decide +kernel
theorem dX6_does_13 : decode cX6_does 13 = .ok (.ifCond .ne 5, 3) := by decide +kernel
theorem dX6_does_16 : decode cX6_does 16 = .ok (.iconst (-1), 1) := by decide +kernel
theorem dX6_does_17 : decode cX6_does 17 = .ok (.ireturn, 1) := by decide +kernel
theorem dX6_does_18 : decode cX6_does 18 = .ok (.aload_n 0, 1) := by decide +kernel
theorem dX6_does_19 : decode cX6_does 19 = .ok (.getfield 51, 3) := by decide +kernel
theorem dX6_does_22 : decode cX6_does 22 = .ok (.getfield 125, 3) := by decide +kernel
theorem dX6_does_25 : decode cX6_does 25 = .ok (.getfield 129, 3) := by decide +kernel
theorem dX6_does_28 : decode cX6_does 28 = .ok (.bipush 6, 2) := by decide +kernel
theorem dX6_does_30 : decode cX6_does 30 = .ok (.if_icmp .lt 6, 3) := by decide +kernel
theorem dX6_does_33 : decode cX6_does 33 = .ok (.bipush (-3), 2) := by decide +kernel
theorem dX6_does_35 : decode cX6_does 35 = .ok (.ireturn, 1) := by decide +kernel
theorem dX6_does_36 : decode cX6_does 36 = .ok (.aload_n 0, 1) := by decide +kernel
theorem dX6_does_37 : decode cX6_does 37 = .ok (.getfield 51, 3) := by decide +kernel
theorem dX6_does_40 : decode cX6_does 40 = .ok (.invokevirtual 134, 3) := by decide +kernel
theorem dX6_does_43 : decode cX6_does 43 = .ok (.aload_n 0, 1) := by decide +kernel
theorem dX6_does_44 : decode cX6_does 44 = .ok (.getfield 51, 3) := by decide +kernel
theorem dX6_does_47 : decode cX6_does 47 = .ok (.getfield 125, 3) := by decide +kernel
theorem dX6_does_50 : decode cX6_does 50 = .ok (.iload_n 1, 1) := by decide +kernel
theorem dX6_does_51 : decode cX6_does 51 = .ok (.iload_n 2, 1) := by decide +kernel
theorem dX6_does_52 : decode cX6_does 52 = .ok (.invokevirtual 137, 3) := by decide +kernel
theorem dX6_does_55 : decode cX6_does 55 = .ok (.aload_n 0, 1) := by decide +kernel
theorem dX6_does_56 : decode cX6_does 56 = .ok (.getfield 44, 3) := by decide +kernel
theorem dX6_does_59 : decode cX6_does 59 = .ok (.invokevirtual 84, 3) := by decide +kernel
theorem dX6_does_62 : decode cX6_does 62 = .ok (.aload_n 0, 1) := by decide +kernel
theorem dX6_does_63 : decode cX6_does 63 = .ok (.getfield 51, 3) := by decide +kernel
theorem dX6_does_66 : decode cX6_does 66 = .ok (.getfield 125, 3) := by decide +kernel
theorem dX6_does_69 : decode cX6_does 69 = .ok (.getfield 129, 3) := by decide +kernel
theorem dX6_does_72 : decode cX6_does 72 = .ok (.ireturn, 1) := by decide +kernel
theorem dX6_takes_0 : decode cX6_takes 0 = .ok (.iload_n 1, 1) := by decide +kernel
theorem dX6_takes_1 : decode cX6_takes 1 = .ok (.ifCond .lt 17, 3) := by decide +kernel
theorem dX6_takes_4 : decode cX6_takes 4 = .ok (.iload_n 1, 1) := by decide +kernel
theorem dX6_takes_5 : decode cX6_takes 5 = .ok (.aload_n 0, 1) := by decide +kernel
theorem dX6_takes_6 : decode cX6_takes 6 = .ok (.getfield 51, 3) := by decide +kernel
theorem dX6_takes_9 : decode cX6_takes 9 = .ok (.getfield 125, 3) := by decide +kernel
theorem dX6_takes_12 : decode cX6_takes 12 = .ok (.getfield 129, 3) := by decide +kernel
theorem dX6_takes_15 : decode cX6_takes 15 = .ok (.if_icmp .lt 5, 3) := by decide +kernel
theorem dX6_takes_18 : decode cX6_takes 18 = .ok (.iconst (-1), 1) := by decide +kernel
theorem dX6_takes_19 : decode cX6_takes 19 = .ok (.ireturn, 1) := by decide +kernel
theorem dX6_takes_20 : decode cX6_takes 20 = .ok (.aload_n 0, 1) := by decide +kernel
theorem dX6_takes_21 : decode cX6_takes 21 = .ok (.getfield 51, 3) := by decide +kernel
theorem dX6_takes_24 : decode cX6_takes 24 = .ok (.invokevirtual 134, 3) := by decide +kernel
theorem dX6_takes_27 : decode cX6_takes 27 = .ok (.aload_n 0, 1) := by decide +kernel
theorem dX6_takes_28 : decode cX6_takes 28 = .ok (.getfield 51, 3) := by decide +kernel
theorem dX6_takes_31 : decode cX6_takes 31 = .ok (.getfield 125, 3) := by decide +kernel
theorem dX6_takes_34 : decode cX6_takes 34 = .ok (.iload_n 1, 1) := by decide +kernel
theorem dX6_takes_35 : decode cX6_takes 35 = .ok (.invokevirtual 141, 3) := by decide +kernel
theorem dX6_takes_38 : decode cX6_takes 38 = .ok (.aload_n 0, 1) := by decide +kernel
theorem dX6_takes_39 : decode cX6_takes 39 = .ok (.getfield 44, 3) := by decide +kernel
theorem dX6_takes_42 : decode cX6_takes 42 = .ok (.invokevirtual 84, 3) := by decide +kernel
theorem dX6_takes_45 : decode cX6_takes 45 = .ok (.aload_n 0, 1) := by decide +kernel
theorem dX6_takes_46 : decode cX6_takes 46 = .ok (.getfield 51, 3) := by decide +kernel
theorem dX6_takes_49 : decode cX6_takes 49 = .ok (.getfield 125, 3) := by decide +kernel
theorem dX6_takes_52 : decode cX6_takes 52 = .ok (.getfield 129, 3) := by decide +kernel
theorem dX6_takes_55 : decode cX6_takes 55 = .ok (.ireturn, 1) := by decide +kernel
theorem dX6_done_0 : decode cX6_done 0 = .ok (.iload_n 1, 1) := by decide +kernel
theorem dX6_done_1 : decode cX6_done 1 = .ok (.ifCond .lt 17, 3) := by decide +kernel
theorem dX6_done_4 : decode cX6_done 4 = .ok (.iload_n 1, 1) := by decide +kernel
theorem dX6_done_5 : decode cX6_done 5 = .ok (.aload_n 0, 1) := by decide +kernel
theorem dX6_done_6 : decode cX6_done 6 = .ok (.getfield 51, 3) := by decide +kernel
theorem dX6_done_9 : decode cX6_done 9 = .ok (.getfield 125, 3) := by decide +kernel
theorem dX6_done_12 : decode cX6_done 12 = .ok (.getfield 129, 3) := by decide +kernel
theorem dX6_done_15 : decode cX6_done 15 = .ok (.if_icmp .lt 5, 3) := by decide +kernel
theorem dX6_done_18 : decode cX6_done 18 = .ok (.iconst (-1), 1) := by decide +kernel
theorem dX6_done_19 : decode cX6_done 19 = .ok (.ireturn, 1) := by decide +kernel
theorem dX6_done_20 : decode cX6_done 20 = .ok (.iload_n 2, 1) := by decide +kernel
theorem dX6_done_21 : decode cX6_done 21 = .ok (.lookupswitch 53 #[(0, 27), (1, 40)], 27) := by decide +kernel
theorem dX6_done_48 : decode cX6_done 48 = .ok (.aload_n 0, 1) := by decide +kernel
theorem dX6_done_49 : decode cX6_done 49 = .ok (.getfield 51, 3) := by decide +kernel
theorem dX6_done_52 : decode cX6_done 52 = .ok (.getfield 125, 3) := by decide +kernel
theorem dX6_done_55 : decode cX6_done 55 = .ok (.getfield 145, 3) := by decide +kernel
theorem dX6_done_58 : decode cX6_done 58 = .ok (.iload_n 1, 1) := by decide +kernel
theorem dX6_done_59 : decode cX6_done 59 = .ok (.iaload, 1) := by decide +kernel
theorem dX6_done_60 : decode cX6_done 60 = .ok (.ireturn, 1) := by decide +kernel
theorem dX6_done_61 : decode cX6_done 61 = .ok (.aload_n 0, 1) := by decide +kernel
theorem dX6_done_62 : decode cX6_done 62 = .ok (.getfield 51, 3) := by decide +kernel
theorem dX6_done_65 : decode cX6_done 65 = .ok (.getfield 125, 3) := by decide +kernel
theorem dX6_done_68 : decode cX6_done 68 = .ok (.getfield 148, 3) := by decide +kernel
theorem dX6_done_71 : decode cX6_done 71 = .ok (.iload_n 1, 1) := by decide +kernel
theorem dX6_done_72 : decode cX6_done 72 = .ok (.iaload, 1) := by decide +kernel
theorem dX6_done_73 : decode cX6_done 73 = .ok (.ireturn, 1) := by decide +kernel
theorem dX6_done_74 : decode cX6_done 74 = .ok (.iconst (-1), 1) := by decide +kernel
theorem dX6_done_75 : decode cX6_done 75 = .ok (.ireturn, 1) := by decide +kernel
theorem dX6_undo_0 : decode cX6_undo 0 = .ok (.aload_n 0, 1) := by decide +kernel
theorem dX6_undo_1 : decode cX6_undo 1 = .ok (.getfield 51, 3) := by decide +kernel
theorem dX6_undo_4 : decode cX6_undo 4 = .ok (.getfield 151, 3) := by decide +kernel
theorem dX6_undo_7 : decode cX6_undo 7 = .ok (.ifCond .gt 6, 3) := by decide +kernel
theorem dX6_undo_10 : decode cX6_undo 10 = .ok (.bipush (-2), 2) := by decide +kernel
theorem dX6_undo_12 : decode cX6_undo 12 = .ok (.ireturn, 1) := by decide +kernel
theorem dX6_undo_13 : decode cX6_undo 13 = .ok (.aload_n 0, 1) := by decide +kernel
theorem dX6_undo_14 : decode cX6_undo 14 = .ok (.getfield 51, 3) := by decide +kernel
theorem dX6_undo_17 : decode cX6_undo 17 = .ok (.invokevirtual 154, 3) := by decide +kernel
theorem dX6_undo_20 : decode cX6_undo 20 = .ok (.aload_n 0, 1) := by decide +kernel
theorem dX6_undo_21 : decode cX6_undo 21 = .ok (.getfield 44, 3) := by decide +kernel
theorem dX6_undo_24 : decode cX6_undo 24 = .ok (.invokevirtual 84, 3) := by decide +kernel
theorem dX6_undo_27 : decode cX6_undo 27 = .ok (.aload_n 0, 1) := by decide +kernel
theorem dX6_undo_28 : decode cX6_undo 28 = .ok (.getfield 51, 3) := by decide +kernel
theorem dX6_undo_31 : decode cX6_undo 31 = .ok (.getfield 151, 3) := by decide +kernel
theorem dX6_undo_34 : decode cX6_undo 34 = .ok (.ireturn, 1) := by decide +kernel
theorem dX6_lives_0 : decode cX6_lives 0 = .ok (.aload_n 0, 1) := by decide +kernel
theorem dX6_lives_1 : decode cX6_lives 1 = .ok (.getfield 37, 3) := by decide +kernel
theorem dX6_lives_4 : decode cX6_lives 4 = .ok (.aload_n 0, 1) := by decide +kernel
theorem dX6_lives_5 : decode cX6_lives 5 = .ok (.getfield 20, 3) := by decide +kernel
theorem dX6_lives_8 : decode cX6_lives 8 = .ok (.aload_n 0, 1) := by decide +kernel
theorem dX6_lives_9 : decode cX6_lives 9 = .ok (.getfield 51, 3) := by decide +kernel
theorem dX6_lives_12 : decode cX6_lives 12 = .ok (.getfield 125, 3) := by decide +kernel
theorem dX6_lives_15 : decode cX6_lives 15 = .ok (.invokevirtual 157, 3) := by decide +kernel
theorem dX6_lives_18 : decode cX6_lives 18 = .ok (.aload_n 0, 1) := by decide +kernel
theorem dX6_lives_19 : decode cX6_lives 19 = .ok (.getfield 37, 3) := by decide +kernel
theorem dX6_lives_22 : decode cX6_lives 22 = .ok (.invokevirtual 161, 3) := by decide +kernel
theorem dX6_lives_25 : decode cX6_lives 25 = .ok (.ireturn, 1) := by decide +kernel
theorem dX6_verdict_0 : decode cX6_verdict 0 = .ok (.aload_n 0, 1) := by decide +kernel
theorem dX6_verdict_1 : decode cX6_verdict 1 = .ok (.iload_n 2, 1) := by decide +kernel
theorem dX6_verdict_2 : decode cX6_verdict 2 = .ok (.invokevirtual 101, 3) := by decide +kernel
theorem dX6_verdict_5 : decode cX6_verdict 5 = .ok (.ifCond .eq 11, 3) := by decide +kernel
theorem dX6_verdict_8 : decode cX6_verdict 8 = .ok (.aload_n 0, 1) := by decide +kernel
theorem dX6_verdict_9 : decode cX6_verdict 9 = .ok (.iload_n 1, 1) := by decide +kernel
theorem dX6_verdict_10 : decode cX6_verdict 10 = .ok (.invokevirtual 165, 3) := by decide +kernel
theorem dX6_verdict_13 : decode cX6_verdict 13 = .ok (.ifCond .ne 5, 3) := by decide +kernel
theorem dX6_verdict_16 : decode cX6_verdict 16 = .ok (.iconst (-1), 1) := by decide +kernel
theorem dX6_verdict_17 : decode cX6_verdict 17 = .ok (.ireturn, 1) := by decide +kernel
theorem dX6_verdict_18 : decode cX6_verdict 18 = .ok (.aload_n 0, 1) := by decide +kernel
theorem dX6_verdict_19 : decode cX6_verdict 19 = .ok (.getfield 37, 3) := by decide +kernel
theorem dX6_verdict_22 : decode cX6_verdict 22 = .ok (.getfield 168, 3) := by decide +kernel
theorem dX6_verdict_25 : decode cX6_verdict 25 = .ok (.iload_n 2, 1) := by decide +kernel
theorem dX6_verdict_26 : decode cX6_verdict 26 = .ok (.iaload, 1) := by decide +kernel
theorem dX6_verdict_27 : decode cX6_verdict 27 = .ok (.ireturn, 1) := by decide +kernel
theorem dX6_self_0 : decode cX6_self 0 = .ok (.aload_n 0, 1) := by decide +kernel
theorem dX6_self_1 : decode cX6_self 1 = .ok (.iload_n 2, 1) := by decide +kernel
theorem dX6_self_2 : decode cX6_self 2 = .ok (.invokevirtual 122, 3) := by decide +kernel
theorem dX6_self_5 : decode cX6_self 5 = .ok (.ifCond .eq 11, 3) := by decide +kernel
theorem dX6_self_8 : decode cX6_self 8 = .ok (.aload_n 0, 1) := by decide +kernel
theorem dX6_self_9 : decode cX6_self 9 = .ok (.iload_n 1, 1) := by decide +kernel
theorem dX6_self_10 : decode cX6_self 10 = .ok (.invokevirtual 165, 3) := by decide +kernel
theorem dX6_self_13 : decode cX6_self 13 = .ok (.ifCond .ne 5, 3) := by decide +kernel
theorem dX6_self_16 : decode cX6_self 16 = .ok (.iconst (-1), 1) := by decide +kernel
theorem dX6_self_17 : decode cX6_self 17 = .ok (.ireturn, 1) := by decide +kernel
theorem dX6_self_18 : decode cX6_self 18 = .ok (.aload_n 0, 1) := by decide +kernel
theorem dX6_self_19 : decode cX6_self 19 = .ok (.getfield 37, 3) := by decide +kernel
theorem dX6_self_22 : decode cX6_self 22 = .ok (.getfield 171, 3) := by decide +kernel
theorem dX6_self_25 : decode cX6_self 25 = .ok (.iload_n 2, 1) := by decide +kernel
theorem dX6_self_26 : decode cX6_self 26 = .ok (.iaload, 1) := by decide +kernel
theorem dX6_self_27 : decode cX6_self 27 = .ok (.ireturn, 1) := by decide +kernel
theorem dX6_sure_0 : decode cX6_sure 0 = .ok (.aload_n 0, 1) := by decide +kernel
theorem dX6_sure_1 : decode cX6_sure 1 = .ok (.iload_n 1, 1) := by decide +kernel
theorem dX6_sure_2 : decode cX6_sure 2 = .ok (.invokevirtual 101, 3) := by decide +kernel
theorem dX6_sure_5 : decode cX6_sure 5 = .ok (.ifCond .ne 5, 3) := by decide +kernel
theorem dX6_sure_8 : decode cX6_sure 8 = .ok (.iconst (-1), 1) := by decide +kernel
theorem dX6_sure_9 : decode cX6_sure 9 = .ok (.ireturn, 1) := by decide +kernel
theorem dX6_sure_10 : decode cX6_sure 10 = .ok (.aload_n 0, 1) := by decide +kernel
theorem dX6_sure_11 : decode cX6_sure 11 = .ok (.getfield 37, 3) := by decide +kernel
theorem dX6_sure_14 : decode cX6_sure 14 = .ok (.aload_n 0, 1) := by decide +kernel
theorem dX6_sure_15 : decode cX6_sure 15 = .ok (.getfield 20, 3) := by decide +kernel
theorem dX6_sure_18 : decode cX6_sure 18 = .ok (.aload_n 0, 1) := by decide +kernel
theorem dX6_sure_19 : decode cX6_sure 19 = .ok (.getfield 51, 3) := by decide +kernel
theorem dX6_sure_22 : decode cX6_sure 22 = .ok (.getfield 125, 3) := by decide +kernel
theorem dX6_sure_25 : decode cX6_sure 25 = .ok (.invokevirtual 157, 3) := by decide +kernel
theorem dX6_sure_28 : decode cX6_sure 28 = .ok (.aload_n 0, 1) := by decide +kernel
theorem dX6_sure_29 : decode cX6_sure 29 = .ok (.getfield 37, 3) := by decide +kernel
theorem dX6_sure_32 : decode cX6_sure 32 = .ok (.iload_n 1, 1) := by decide +kernel
theorem dX6_sure_33 : decode cX6_sure 33 = .ok (.invokevirtual 174, 3) := by decide +kernel
theorem dX6_sure_36 : decode cX6_sure 36 = .ok (.ireturn, 1) := by decide +kernel
theorem dX6_who_0 : decode cX6_who 0 = .ok (.aload_n 0, 1) := by decide +kernel
theorem dX6_who_1 : decode cX6_who 1 = .ok (.iload_n 1, 1) := by decide +kernel
theorem dX6_who_2 : decode cX6_who 2 = .ok (.invokevirtual 122, 3) := by decide +kernel
theorem dX6_who_5 : decode cX6_who 5 = .ok (.ifCond .ne 5, 3) := by decide +kernel
theorem dX6_who_8 : decode cX6_who 8 = .ok (.iconst (-1), 1) := by decide +kernel
theorem dX6_who_9 : decode cX6_who 9 = .ok (.ireturn, 1) := by decide +kernel
theorem dX6_who_10 : decode cX6_who 10 = .ok (.aload_n 0, 1) := by decide +kernel
theorem dX6_who_11 : decode cX6_who 11 = .ok (.getfield 37, 3) := by decide +kernel
theorem dX6_who_14 : decode cX6_who 14 = .ok (.aload_n 0, 1) := by decide +kernel
theorem dX6_who_15 : decode cX6_who 15 = .ok (.getfield 20, 3) := by decide +kernel
theorem dX6_who_18 : decode cX6_who 18 = .ok (.aload_n 0, 1) := by decide +kernel
theorem dX6_who_19 : decode cX6_who 19 = .ok (.getfield 51, 3) := by decide +kernel
theorem dX6_who_22 : decode cX6_who 22 = .ok (.getfield 125, 3) := by decide +kernel
theorem dX6_who_25 : decode cX6_who 25 = .ok (.invokevirtual 157, 3) := by decide +kernel
theorem dX6_who_28 : decode cX6_who 28 = .ok (.aload_n 0, 1) := by decide +kernel
theorem dX6_who_29 : decode cX6_who 29 = .ok (.getfield 37, 3) := by decide +kernel
theorem dX6_who_32 : decode cX6_who 32 = .ok (.invokevirtual 178, 3) := by decide +kernel
theorem dX6_who_35 : decode cX6_who 35 = .ok (.istore_n 2, 1) := by decide +kernel
theorem dX6_who_36 : decode cX6_who 36 = .ok (.iconst 0, 1) := by decide +kernel
theorem dX6_who_37 : decode cX6_who 37 = .ok (.istore_n 3, 1) := by decide +kernel
theorem dX6_who_38 : decode cX6_who 38 = .ok (.iconst 0, 1) := by decide +kernel
theorem dX6_who_39 : decode cX6_who 39 = .ok (.istore 4, 2) := by decide +kernel
theorem dX6_who_41 : decode cX6_who 41 = .ok (.iload 4, 2) := by decide +kernel
theorem dX6_who_43 : decode cX6_who 43 = .ok (.iload_n 2, 1) := by decide +kernel
theorem dX6_who_44 : decode cX6_who 44 = .ok (.if_icmp .ge 35, 3) := by decide +kernel
theorem dX6_who_47 : decode cX6_who 47 = .ok (.aload_n 0, 1) := by decide +kernel
theorem dX6_who_48 : decode cX6_who 48 = .ok (.getfield 37, 3) := by decide +kernel
theorem dX6_who_51 : decode cX6_who 51 = .ok (.iload 4, 2) := by decide +kernel
theorem dX6_who_53 : decode cX6_who 53 = .ok (.invokevirtual 181, 3) := by decide +kernel
theorem dX6_who_56 : decode cX6_who 56 = .ok (.ifCond .eq 17, 3) := by decide +kernel
theorem dX6_who_59 : decode cX6_who 59 = .ok (.iload_n 3, 1) := by decide +kernel
theorem dX6_who_60 : decode cX6_who 60 = .ok (.iconst 1, 1) := by decide +kernel
theorem dX6_who_61 : decode cX6_who 61 = .ok (.aload_n 0, 1) := by decide +kernel
theorem dX6_who_62 : decode cX6_who 62 = .ok (.getfield 37, 3) := by decide +kernel
theorem dX6_who_65 : decode cX6_who 65 = .ok (.getfield 171, 3) := by decide +kernel
theorem dX6_who_68 : decode cX6_who 68 = .ok (.iload_n 1, 1) := by decide +kernel
theorem dX6_who_69 : decode cX6_who 69 = .ok (.iaload, 1) := by decide +kernel
theorem dX6_who_70 : decode cX6_who 70 = .ok (.ishl, 1) := by decide +kernel
theorem dX6_who_71 : decode cX6_who 71 = .ok (.ior, 1) := by decide +kernel
theorem dX6_who_72 : decode cX6_who 72 = .ok (.istore_n 3, 1) := by decide +kernel
theorem dX6_who_73 : decode cX6_who 73 = .ok (.iinc 4 1, 3) := by decide +kernel
theorem dX6_who_76 : decode cX6_who 76 = .ok (.goto (-35), 3) := by decide +kernel
theorem dX6_who_79 : decode cX6_who 79 = .ok (.iload_n 3, 1) := by decide +kernel
theorem dX6_who_80 : decode cX6_who 80 = .ok (.ireturn, 1) := by decide +kernel
theorem dX6_ring_0 : decode cX6_ring 0 = .ok (.iload_n 1, 1) := by decide +kernel
theorem dX6_ring_1 : decode cX6_ring 1 = .ok (.ifCond .eq 10, 3) := by decide +kernel
theorem dX6_ring_4 : decode cX6_ring 4 = .ok (.iload_n 1, 1) := by decide +kernel
theorem dX6_ring_5 : decode cX6_ring 5 = .ok (.iconst 1, 1) := by decide +kernel
theorem dX6_ring_6 : decode cX6_ring 6 = .ok (.if_icmp .eq 5, 3) := by decide +kernel
theorem dX6_ring_9 : decode cX6_ring 9 = .ok (.iconst (-1), 1) := by decide +kernel
theorem dX6_ring_10 : decode cX6_ring 10 = .ok (.ireturn, 1) := by decide +kernel
theorem dX6_ring_11 : decode cX6_ring 11 = .ok (.aload_n 0, 1) := by decide +kernel
theorem dX6_ring_12 : decode cX6_ring 12 = .ok (.getfield 37, 3) := by decide +kernel
theorem dX6_ring_15 : decode cX6_ring 15 = .ok (.aload_n 0, 1) := by decide +kernel
theorem dX6_ring_16 : decode cX6_ring 16 = .ok (.getfield 20, 3) := by decide +kernel
theorem dX6_ring_19 : decode cX6_ring 19 = .ok (.aload_n 0, 1) := by decide +kernel
theorem dX6_ring_20 : decode cX6_ring 20 = .ok (.getfield 51, 3) := by decide +kernel
theorem dX6_ring_23 : decode cX6_ring 23 = .ok (.getfield 125, 3) := by decide +kernel
theorem dX6_ring_26 : decode cX6_ring 26 = .ok (.invokevirtual 157, 3) := by decide +kernel
theorem dX6_ring_29 : decode cX6_ring 29 = .ok (.aload_n 0, 1) := by decide +kernel
theorem dX6_ring_30 : decode cX6_ring 30 = .ok (.getfield 37, 3) := by decide +kernel
theorem dX6_ring_33 : decode cX6_ring 33 = .ok (.iload_n 1, 1) := by decide +kernel
theorem dX6_ring_34 : decode cX6_ring 34 = .ok (.invokevirtual 184, 3) := by decide +kernel
theorem dX6_ring_37 : decode cX6_ring 37 = .ok (.ireturn, 1) := by decide +kernel
theorem dX6_help_0 : decode cX6_help 0 = .ok (.aload_n 0, 1) := by decide +kernel
theorem dX6_help_1 : decode cX6_help 1 = .ok (.iload_n 1, 1) := by decide +kernel
theorem dX6_help_2 : decode cX6_help 2 = .ok (.invokevirtual 101, 3) := by decide +kernel
theorem dX6_help_5 : decode cX6_help 5 = .ok (.ifCond .eq 12, 3) := by decide +kernel
theorem dX6_help_8 : decode cX6_help 8 = .ok (.iload_n 2, 1) := by decide +kernel
theorem dX6_help_9 : decode cX6_help 9 = .ok (.ifCond .lt 8, 3) := by decide +kernel
theorem dX6_help_12 : decode cX6_help 12 = .ok (.iload_n 2, 1) := by decide +kernel
theorem dX6_help_13 : decode cX6_help 13 = .ok (.iconst 2, 1) := by decide +kernel
theorem dX6_help_14 : decode cX6_help 14 = .ok (.if_icmp .le 5, 3) := by decide +kernel
theorem dX6_help_17 : decode cX6_help 17 = .ok (.iconst (-1), 1) := by decide +kernel
theorem dX6_help_18 : decode cX6_help 18 = .ok (.ireturn, 1) := by decide +kernel
theorem dX6_help_19 : decode cX6_help 19 = .ok (.aload_n 0, 1) := by decide +kernel
theorem dX6_help_20 : decode cX6_help 20 = .ok (.getfield 44, 3) := by decide +kernel
theorem dX6_help_23 : decode cX6_help 23 = .ok (.getfield 187, 3) := by decide +kernel
theorem dX6_help_26 : decode cX6_help 26 = .ok (.iload_n 1, 1) := by decide +kernel
theorem dX6_help_27 : decode cX6_help 27 = .ok (.baload, 1) := by decide +kernel
theorem dX6_help_28 : decode cX6_help 28 = .ok (.ifCond .ne 33, 3) := by decide +kernel
theorem dX6_help_31 : decode cX6_help 31 = .ok (.aload_n 0, 1) := by decide +kernel
theorem dX6_help_32 : decode cX6_help 32 = .ok (.getfield 37, 3) := by decide +kernel
theorem dX6_help_35 : decode cX6_help 35 = .ok (.aload_n 0, 1) := by decide +kernel
theorem dX6_help_36 : decode cX6_help 36 = .ok (.getfield 20, 3) := by decide +kernel
theorem dX6_help_39 : decode cX6_help 39 = .ok (.aload_n 0, 1) := by decide +kernel
theorem dX6_help_40 : decode cX6_help 40 = .ok (.getfield 51, 3) := by decide +kernel
theorem dX6_help_43 : decode cX6_help 43 = .ok (.getfield 125, 3) := by decide +kernel
theorem dX6_help_46 : decode cX6_help 46 = .ok (.invokevirtual 157, 3) := by decide +kernel
theorem dX6_help_49 : decode cX6_help 49 = .ok (.aload_n 0, 1) := by decide +kernel
theorem dX6_help_50 : decode cX6_help 50 = .ok (.getfield 44, 3) := by decide +kernel
theorem dX6_help_53 : decode cX6_help 53 = .ok (.aload_n 0, 1) := by decide +kernel
theorem dX6_help_54 : decode cX6_help 54 = .ok (.getfield 37, 3) := by decide +kernel
theorem dX6_help_57 : decode cX6_help 57 = .ok (.iload_n 1, 1) := by decide +kernel
theorem dX6_help_58 : decode cX6_help 58 = .ok (.invokevirtual 189, 3) := by decide +kernel
theorem dX6_help_61 : decode cX6_help 61 = .ok (.iload_n 2, 1) := by decide +kernel
theorem dX6_help_62 : decode cX6_help 62 = .ok (.lookupswitch 46 #[(0, 26), (1, 36)], 26) := by decide +kernel
theorem dX6_help_88 : decode cX6_help 88 = .ok (.aload_n 0, 1) := by decide +kernel
theorem dX6_help_89 : decode cX6_help 89 = .ok (.getfield 44, 3) := by decide +kernel
theorem dX6_help_92 : decode cX6_help 92 = .ok (.getfield 193, 3) := by decide +kernel
theorem dX6_help_95 : decode cX6_help 95 = .ok (.iload_n 1, 1) := by decide +kernel
theorem dX6_help_96 : decode cX6_help 96 = .ok (.iaload, 1) := by decide +kernel
theorem dX6_help_97 : decode cX6_help 97 = .ok (.ireturn, 1) := by decide +kernel
theorem dX6_help_98 : decode cX6_help 98 = .ok (.aload_n 0, 1) := by decide +kernel
theorem dX6_help_99 : decode cX6_help 99 = .ok (.getfield 44, 3) := by decide +kernel
theorem dX6_help_102 : decode cX6_help 102 = .ok (.getfield 195, 3) := by decide +kernel
theorem dX6_help_105 : decode cX6_help 105 = .ok (.iload_n 1, 1) := by decide +kernel
theorem dX6_help_106 : decode cX6_help 106 = .ok (.iaload, 1) := by decide +kernel
theorem dX6_help_107 : decode cX6_help 107 = .ok (.ireturn, 1) := by decide +kernel
theorem dX6_help_108 : decode cX6_help 108 = .ok (.aload_n 0, 1) := by decide +kernel
theorem dX6_help_109 : decode cX6_help 109 = .ok (.getfield 44, 3) := by decide +kernel
theorem dX6_help_112 : decode cX6_help 112 = .ok (.getfield 198, 3) := by decide +kernel
theorem dX6_help_115 : decode cX6_help 115 = .ok (.iload_n 1, 1) := by decide +kernel
theorem dX6_help_116 : decode cX6_help 116 = .ok (.iaload, 1) := by decide +kernel
theorem dX6_help_117 : decode cX6_help 117 = .ok (.ireturn, 1) := by decide +kernel
theorem dX6_strikes_0 : decode cX6_strikes 0 = .ok (.aload_n 0, 1) := by decide +kernel
theorem dX6_strikes_1 : decode cX6_strikes 1 = .ok (.iload_n 2, 1) := by decide +kernel
theorem dX6_strikes_2 : decode cX6_strikes 2 = .ok (.invokevirtual 101, 3) := by decide +kernel
theorem dX6_strikes_5 : decode cX6_strikes 5 = .ok (.ifCond .eq 22, 3) := by decide +kernel
theorem dX6_strikes_8 : decode cX6_strikes 8 = .ok (.iload_n 3, 1) := by decide +kernel
theorem dX6_strikes_9 : decode cX6_strikes 9 = .ok (.iconst 1, 1) := by decide +kernel
theorem dX6_strikes_10 : decode cX6_strikes 10 = .ok (.if_icmp .lt 17, 3) := by decide +kernel
theorem dX6_strikes_13 : decode cX6_strikes 13 = .ok (.iload_n 3, 1) := by decide +kernel
theorem dX6_strikes_14 : decode cX6_strikes 14 = .ok (.bipush 9, 2) := by decide +kernel
theorem dX6_strikes_16 : decode cX6_strikes 16 = .ok (.if_icmp .gt 11, 3) := by decide +kernel
theorem dX6_strikes_19 : decode cX6_strikes 19 = .ok (.aload_n 0, 1) := by decide +kernel
theorem dX6_strikes_20 : decode cX6_strikes 20 = .ok (.iload_n 1, 1) := by decide +kernel
theorem dX6_strikes_21 : decode cX6_strikes 21 = .ok (.invokevirtual 165, 3) := by decide +kernel
theorem dX6_strikes_24 : decode cX6_strikes 24 = .ok (.ifCond .ne 6, 3) := by decide +kernel
theorem dX6_strikes_27 : decode cX6_strikes 27 = .ok (.ldc 91, 2) := by decide +kernel
theorem dX6_strikes_29 : decode cX6_strikes 29 = .ok (.ireturn, 1) := by decide +kernel
theorem dX6_strikes_30 : decode cX6_strikes 30 = .ok (.aload_n 0, 1) := by decide +kernel
theorem dX6_strikes_31 : decode cX6_strikes 31 = .ok (.getfield 37, 3) := by decide +kernel
theorem dX6_strikes_34 : decode cX6_strikes 34 = .ok (.iload_n 2, 1) := by decide +kernel
theorem dX6_strikes_35 : decode cX6_strikes 35 = .ok (.invokevirtual 201, 3) := by decide +kernel
theorem dX6_strikes_38 : decode cX6_strikes 38 = .ok (.istore 4, 2) := by decide +kernel
theorem dX6_strikes_40 : decode cX6_strikes 40 = .ok (.iload 4, 2) := by decide +kernel
theorem dX6_strikes_42 : decode cX6_strikes 42 = .ok (.iload_n 3, 1) := by decide +kernel
theorem dX6_strikes_43 : decode cX6_strikes 43 = .ok (.if_icmp .ge 6, 3) := by decide +kernel
theorem dX6_strikes_46 : decode cX6_strikes 46 = .ok (.ldc 91, 2) := by decide +kernel
theorem dX6_strikes_48 : decode cX6_strikes 48 = .ok (.ireturn, 1) := by decide +kernel
theorem dX6_strikes_49 : decode cX6_strikes 49 = .ok (.aload_n 0, 1) := by decide +kernel
theorem dX6_strikes_50 : decode cX6_strikes 50 = .ok (.getfield 37, 3) := by decide +kernel
theorem dX6_strikes_53 : decode cX6_strikes 53 = .ok (.iload 4, 2) := by decide +kernel
theorem dX6_strikes_55 : decode cX6_strikes 55 = .ok (.iload_n 3, 1) := by decide +kernel
theorem dX6_strikes_56 : decode cX6_strikes 56 = .ok (.invokevirtual 204, 3) := by decide +kernel
theorem dX6_strikes_59 : decode cX6_strikes 59 = .ok (.ireturn, 1) := by decide +kernel
theorem dX6_innocent_0 : decode cX6_innocent 0 = .ok (.aload_n 0, 1) := by decide +kernel
theorem dX6_innocent_1 : decode cX6_innocent 1 = .ok (.iload_n 1, 1) := by decide +kernel
theorem dX6_innocent_2 : decode cX6_innocent 2 = .ok (.invokevirtual 101, 3) := by decide +kernel
theorem dX6_innocent_5 : decode cX6_innocent 5 = .ok (.ifCond .eq 11, 3) := by decide +kernel
theorem dX6_innocent_8 : decode cX6_innocent 8 = .ok (.aload_n 0, 1) := by decide +kernel
theorem dX6_innocent_9 : decode cX6_innocent 9 = .ok (.iload_n 1, 1) := by decide +kernel
theorem dX6_innocent_10 : decode cX6_innocent 10 = .ok (.invokevirtual 208, 3) := by decide +kernel
theorem dX6_innocent_13 : decode cX6_innocent 13 = .ok (.goto 4, 3) := by decide +kernel
theorem dX6_innocent_16 : decode cX6_innocent 16 = .ok (.iconst (-1), 1) := by decide +kernel
theorem dX6_innocent_17 : decode cX6_innocent 17 = .ok (.ireturn, 1) := by decide +kernel
theorem dX6_odds_0 : decode cX6_odds 0 = .ok (.aload_n 0, 1) := by decide +kernel
theorem dX6_odds_1 : decode cX6_odds 1 = .ok (.iload_n 1, 1) := by decide +kernel
theorem dX6_odds_2 : decode cX6_odds 2 = .ok (.invokevirtual 101, 3) := by decide +kernel
theorem dX6_odds_5 : decode cX6_odds 5 = .ok (.ifCond .eq 12, 3) := by decide +kernel
theorem dX6_odds_8 : decode cX6_odds 8 = .ok (.iload_n 2, 1) := by decide +kernel
theorem dX6_odds_9 : decode cX6_odds 9 = .ok (.ifCond .eq 10, 3) := by decide +kernel
theorem dX6_odds_12 : decode cX6_odds 12 = .ok (.iload_n 2, 1) := by decide +kernel
theorem dX6_odds_13 : decode cX6_odds 13 = .ok (.iconst 1, 1) := by decide +kernel
theorem dX6_odds_14 : decode cX6_odds 14 = .ok (.if_icmp .eq 5, 3) := by decide +kernel
theorem dX6_odds_17 : decode cX6_odds 17 = .ok (.iconst (-1), 1) := by decide +kernel
theorem dX6_odds_18 : decode cX6_odds 18 = .ok (.ireturn, 1) := by decide +kernel
theorem dX6_odds_19 : decode cX6_odds 19 = .ok (.aload_n 0, 1) := by decide +kernel
theorem dX6_odds_20 : decode cX6_odds 20 = .ok (.getfield 20, 3) := by decide +kernel
theorem dX6_odds_23 : decode cX6_odds 23 = .ok (.getfield 211, 3) := by decide +kernel
theorem dX6_odds_26 : decode cX6_odds 26 = .ok (.ifCond .ne 6, 3) := by decide +kernel
theorem dX6_odds_29 : decode cX6_odds 29 = .ok (.bipush (-2), 2) := by decide +kernel
theorem dX6_odds_31 : decode cX6_odds 31 = .ok (.ireturn, 1) := by decide +kernel
theorem dX6_odds_32 : decode cX6_odds 32 = .ok (.aload_n 0, 1) := by decide +kernel
theorem dX6_odds_33 : decode cX6_odds 33 = .ok (.iload_n 1, 1) := by decide +kernel
theorem dX6_odds_34 : decode cX6_odds 34 = .ok (.invokevirtual 208, 3) := by decide +kernel
theorem dX6_odds_37 : decode cX6_odds 37 = .ok (.invokestatic 214, 3) := by decide +kernel
theorem dX6_odds_40 : decode cX6_odds 40 = .ok (.istore_n 3, 1) := by decide +kernel
theorem dX6_odds_41 : decode cX6_odds 41 = .ok (.iload_n 3, 1) := by decide +kernel
theorem dX6_odds_42 : decode cX6_odds 42 = .ok (.aload_n 0, 1) := by decide +kernel
theorem dX6_odds_43 : decode cX6_odds 43 = .ok (.getfield 20, 3) := by decide +kernel
theorem dX6_odds_46 : decode cX6_odds 46 = .ok (.getfield 211, 3) := by decide +kernel
theorem dX6_odds_49 : decode cX6_odds 49 = .ok (.invokestatic 219, 3) := by decide +kernel
theorem dX6_odds_52 : decode cX6_odds 52 = .ok (.istore 4, 2) := by decide +kernel
theorem dX6_odds_54 : decode cX6_odds 54 = .ok (.iload 4, 2) := by decide +kernel
theorem dX6_odds_56 : decode cX6_odds 56 = .ok (.ifCond .ne 6, 3) := by decide +kernel
theorem dX6_odds_59 : decode cX6_odds 59 = .ok (.bipush (-2), 2) := by decide +kernel
theorem dX6_odds_61 : decode cX6_odds 61 = .ok (.ireturn, 1) := by decide +kernel
theorem dX6_odds_62 : decode cX6_odds 62 = .ok (.iload_n 2, 1) := by decide +kernel
theorem dX6_odds_63 : decode cX6_odds 63 = .ok (.ifCond .ne 10, 3) := by decide +kernel
theorem dX6_odds_66 : decode cX6_odds 66 = .ok (.iload_n 3, 1) := by decide +kernel
theorem dX6_odds_67 : decode cX6_odds 67 = .ok (.iload 4, 2) := by decide +kernel
theorem dX6_odds_69 : decode cX6_odds 69 = .ok (.idiv, 1) := by decide +kernel
theorem dX6_odds_70 : decode cX6_odds 70 = .ok (.goto 13, 3) := by decide +kernel
theorem dX6_odds_73 : decode cX6_odds 73 = .ok (.aload_n 0, 1) := by decide +kernel
theorem dX6_odds_74 : decode cX6_odds 74 = .ok (.getfield 20, 3) := by decide +kernel
theorem dX6_odds_77 : decode cX6_odds 77 = .ok (.getfield 211, 3) := by decide +kernel
theorem dX6_odds_80 : decode cX6_odds 80 = .ok (.iload 4, 2) := by decide +kernel
theorem dX6_odds_82 : decode cX6_odds 82 = .ok (.idiv, 1) := by decide +kernel
theorem dX6_odds_83 : decode cX6_odds 83 = .ok (.ireturn, 1) := by decide +kernel
theorem dX6_saw_0 : decode cX6_saw 0 = .ok (.aload_n 0, 1) := by decide +kernel
theorem dX6_saw_1 : decode cX6_saw 1 = .ok (.iload_n 1, 1) := by decide +kernel
theorem dX6_saw_2 : decode cX6_saw 2 = .ok (.invokevirtual 122, 3) := by decide +kernel
theorem dX6_saw_5 : decode cX6_saw 5 = .ok (.ifCond .eq 11, 3) := by decide +kernel
theorem dX6_saw_8 : decode cX6_saw 8 = .ok (.aload_n 0, 1) := by decide +kernel
theorem dX6_saw_9 : decode cX6_saw 9 = .ok (.iload_n 2, 1) := by decide +kernel
theorem dX6_saw_10 : decode cX6_saw 10 = .ok (.invokevirtual 87, 3) := by decide +kernel
theorem dX6_saw_13 : decode cX6_saw 13 = .ok (.ifCond .ne 5, 3) := by decide +kernel
theorem dX6_saw_16 : decode cX6_saw 16 = .ok (.iconst (-1), 1) := by decide +kernel
theorem dX6_saw_17 : decode cX6_saw 17 = .ok (.ireturn, 1) := by decide +kernel
theorem dX6_saw_18 : decode cX6_saw 18 = .ok (.aload_n 0, 1) := by decide +kernel
theorem dX6_saw_19 : decode cX6_saw 19 = .ok (.getfield 69, 3) := by decide +kernel
theorem dX6_saw_22 : decode cX6_saw 22 = .ok (.bipush 6, 2) := by decide +kernel
theorem dX6_saw_24 : decode cX6_saw 24 = .ok (.if_icmp .lt 6, 3) := by decide +kernel
theorem dX6_saw_27 : decode cX6_saw 27 = .ok (.bipush (-3), 2) := by decide +kernel
theorem dX6_saw_29 : decode cX6_saw 29 = .ok (.ireturn, 1) := by decide +kernel
theorem dX6_saw_30 : decode cX6_saw 30 = .ok (.aload_n 0, 1) := by decide +kernel
theorem dX6_saw_31 : decode cX6_saw 31 = .ok (.getfield 63, 3) := by decide +kernel
theorem dX6_saw_34 : decode cX6_saw 34 = .ok (.aload_n 0, 1) := by decide +kernel
theorem dX6_saw_35 : decode cX6_saw 35 = .ok (.getfield 69, 3) := by decide +kernel
theorem dX6_saw_38 : decode cX6_saw 38 = .ok (.iload_n 1, 1) := by decide +kernel
theorem dX6_saw_39 : decode cX6_saw 39 = .ok (.iastore, 1) := by decide +kernel
theorem dX6_saw_40 : decode cX6_saw 40 = .ok (.aload_n 0, 1) := by decide +kernel
theorem dX6_saw_41 : decode cX6_saw 41 = .ok (.getfield 66, 3) := by decide +kernel
theorem dX6_saw_44 : decode cX6_saw 44 = .ok (.aload_n 0, 1) := by decide +kernel
theorem dX6_saw_45 : decode cX6_saw 45 = .ok (.getfield 69, 3) := by decide +kernel
theorem dX6_saw_48 : decode cX6_saw 48 = .ok (.iload_n 2, 1) := by decide +kernel
theorem dX6_saw_49 : decode cX6_saw 49 = .ok (.iastore, 1) := by decide +kernel
theorem dX6_saw_50 : decode cX6_saw 50 = .ok (.aload_n 0, 1) := by decide +kernel
theorem dX6_saw_51 : decode cX6_saw 51 = .ok (.dup, 1) := by decide +kernel
theorem dX6_saw_52 : decode cX6_saw 52 = .ok (.getfield 69, 3) := by decide +kernel
theorem dX6_saw_55 : decode cX6_saw 55 = .ok (.iconst 1, 1) := by decide +kernel
theorem dX6_saw_56 : decode cX6_saw 56 = .ok (.iadd, 1) := by decide +kernel
theorem dX6_saw_57 : decode cX6_saw 57 = .ok (.putfield 69, 3) := by decide +kernel
theorem dX6_saw_60 : decode cX6_saw 60 = .ok (.aload_n 0, 1) := by decide +kernel
theorem dX6_saw_61 : decode cX6_saw 61 = .ok (.getfield 69, 3) := by decide +kernel
theorem dX6_saw_64 : decode cX6_saw 64 = .ok (.ireturn, 1) := by decide +kernel
theorem dX6_forget_0 : decode cX6_forget 0 = .ok (.aload_n 0, 1) := by decide +kernel
theorem dX6_forget_1 : decode cX6_forget 1 = .ok (.getfield 69, 3) := by decide +kernel
theorem dX6_forget_4 : decode cX6_forget 4 = .ok (.istore_n 1, 1) := by decide +kernel
theorem dX6_forget_5 : decode cX6_forget 5 = .ok (.aload_n 0, 1) := by decide +kernel
theorem dX6_forget_6 : decode cX6_forget 6 = .ok (.iconst 0, 1) := by decide +kernel
theorem dX6_forget_7 : decode cX6_forget 7 = .ok (.putfield 69, 3) := by decide +kernel
theorem dX6_forget_10 : decode cX6_forget 10 = .ok (.iload_n 1, 1) := by decide +kernel
theorem dX6_forget_11 : decode cX6_forget 11 = .ok (.ireturn, 1) := by decide +kernel
theorem dX6_fits_0 : decode cX6_fits 0 = .ok (.aload_n 0, 1) := by decide +kernel
theorem dX6_fits_1 : decode cX6_fits 1 = .ok (.getfield 37, 3) := by decide +kernel
theorem dX6_fits_4 : decode cX6_fits 4 = .ok (.aload_n 0, 1) := by decide +kernel
theorem dX6_fits_5 : decode cX6_fits 5 = .ok (.getfield 20, 3) := by decide +kernel
theorem dX6_fits_8 : decode cX6_fits 8 = .ok (.aload_n 0, 1) := by decide +kernel
theorem dX6_fits_9 : decode cX6_fits 9 = .ok (.getfield 51, 3) := by decide +kernel
theorem dX6_fits_12 : decode cX6_fits 12 = .ok (.getfield 125, 3) := by decide +kernel
theorem dX6_fits_15 : decode cX6_fits 15 = .ok (.invokevirtual 157, 3) := by decide +kernel
theorem dX6_fits_18 : decode cX6_fits 18 = .ok (.iconst 0, 1) := by decide +kernel
theorem dX6_fits_19 : decode cX6_fits 19 = .ok (.istore_n 1, 1) := by decide +kernel
theorem dX6_fits_20 : decode cX6_fits 20 = .ok (.iconst 0, 1) := by decide +kernel
theorem dX6_fits_21 : decode cX6_fits 21 = .ok (.istore_n 2, 1) := by decide +kernel
theorem dX6_fits_22 : decode cX6_fits 22 = .ok (.iload_n 2, 1) := by decide +kernel
theorem dX6_fits_23 : decode cX6_fits 23 = .ok (.aload_n 0, 1) := by decide +kernel
theorem dX6_fits_24 : decode cX6_fits 24 = .ok (.getfield 20, 3) := by decide +kernel
theorem dX6_fits_27 : decode cX6_fits 27 = .ok (.getfield 211, 3) := by decide +kernel
theorem dX6_fits_30 : decode cX6_fits 30 = .ok (.if_icmp .ge 30, 3) := by decide +kernel
theorem dX6_fits_33 : decode cX6_fits 33 = .ok (.aload_n 0, 1) := by decide +kernel
theorem dX6_fits_34 : decode cX6_fits 34 = .ok (.getfield 37, 3) := by decide +kernel
theorem dX6_fits_37 : decode cX6_fits 37 = .ok (.iload_n 2, 1) := by decide +kernel
theorem dX6_fits_38 : decode cX6_fits 38 = .ok (.putfield 222, 3) := by decide +kernel
theorem dX6_fits_41 : decode cX6_fits 41 = .ok (.aload_n 0, 1) := by decide +kernel
theorem dX6_fits_42 : decode cX6_fits 42 = .ok (.invokevirtual 225, 3) := by decide +kernel
theorem dX6_fits_45 : decode cX6_fits 45 = .ok (.ifCond .eq 9, 3) := by decide +kernel
theorem dX6_fits_48 : decode cX6_fits 48 = .ok (.iload_n 1, 1) := by decide +kernel
theorem dX6_fits_49 : decode cX6_fits 49 = .ok (.iconst 1, 1) := by decide +kernel
theorem dX6_fits_50 : decode cX6_fits 50 = .ok (.iload_n 2, 1) := by decide +kernel
theorem dX6_fits_51 : decode cX6_fits 51 = .ok (.ishl, 1) := by decide +kernel
theorem dX6_fits_52 : decode cX6_fits 52 = .ok (.ior, 1) := by decide +kernel
theorem dX6_fits_53 : decode cX6_fits 53 = .ok (.istore_n 1, 1) := by decide +kernel
theorem dX6_fits_54 : decode cX6_fits 54 = .ok (.iinc 2 1, 3) := by decide +kernel
theorem dX6_fits_57 : decode cX6_fits 57 = .ok (.goto (-35), 3) := by decide +kernel
theorem dX6_fits_60 : decode cX6_fits 60 = .ok (.iload_n 1, 1) := by decide +kernel
theorem dX6_fits_61 : decode cX6_fits 61 = .ok (.ireturn, 1) := by decide +kernel
theorem dX6_quorum_0 : decode cX6_quorum 0 = .ok (.iload_n 1, 1) := by decide +kernel
theorem dX6_quorum_1 : decode cX6_quorum 1 = .ok (.iconst 1, 1) := by decide +kernel
theorem dX6_quorum_2 : decode cX6_quorum 2 = .ok (.if_icmp .lt 9, 3) := by decide +kernel
theorem dX6_quorum_5 : decode cX6_quorum 5 = .ok (.iload_n 1, 1) := by decide +kernel
theorem dX6_quorum_6 : decode cX6_quorum 6 = .ok (.bipush 9, 2) := by decide +kernel
theorem dX6_quorum_8 : decode cX6_quorum 8 = .ok (.if_icmp .le 5, 3) := by decide +kernel
theorem dX6_quorum_11 : decode cX6_quorum 11 = .ok (.iconst (-1), 1) := by decide +kernel
theorem dX6_quorum_12 : decode cX6_quorum 12 = .ok (.ireturn, 1) := by decide +kernel
theorem dX6_quorum_13 : decode cX6_quorum 13 = .ok (.aload_n 0, 1) := by decide +kernel
theorem dX6_quorum_14 : decode cX6_quorum 14 = .ok (.getfield 37, 3) := by decide +kernel
theorem dX6_quorum_17 : decode cX6_quorum 17 = .ok (.aload_n 0, 1) := by decide +kernel
theorem dX6_quorum_18 : decode cX6_quorum 18 = .ok (.getfield 20, 3) := by decide +kernel
theorem dX6_quorum_21 : decode cX6_quorum 21 = .ok (.aload_n 0, 1) := by decide +kernel
theorem dX6_quorum_22 : decode cX6_quorum 22 = .ok (.getfield 51, 3) := by decide +kernel
theorem dX6_quorum_25 : decode cX6_quorum 25 = .ok (.getfield 125, 3) := by decide +kernel
theorem dX6_quorum_28 : decode cX6_quorum 28 = .ok (.invokevirtual 157, 3) := by decide +kernel
theorem dX6_quorum_31 : decode cX6_quorum 31 = .ok (.aload_n 0, 1) := by decide +kernel
theorem dX6_quorum_32 : decode cX6_quorum 32 = .ok (.getfield 37, 3) := by decide +kernel
theorem dX6_quorum_35 : decode cX6_quorum 35 = .ok (.iload_n 1, 1) := by decide +kernel
theorem dX6_quorum_36 : decode cX6_quorum 36 = .ok (.putfield 229, 3) := by decide +kernel
theorem dX6_quorum_39 : decode cX6_quorum 39 = .ok (.aload_n 0, 1) := by decide +kernel
theorem dX6_quorum_40 : decode cX6_quorum 40 = .ok (.getfield 37, 3) := by decide +kernel
theorem dX6_quorum_43 : decode cX6_quorum 43 = .ok (.invokevirtual 161, 3) := by decide +kernel
theorem dX6_quorum_46 : decode cX6_quorum 46 = .ok (.ireturn, 1) := by decide +kernel
theorem dX6_mark_0 : decode cX6_mark 0 = .ok (.aload_n 0, 1) := by decide +kernel
theorem dX6_mark_1 : decode cX6_mark 1 = .ok (.iload_n 2, 1) := by decide +kernel
theorem dX6_mark_2 : decode cX6_mark 2 = .ok (.invokevirtual 87, 3) := by decide +kernel
theorem dX6_mark_5 : decode cX6_mark 5 = .ok (.ifCond .ne 6, 3) := by decide +kernel
theorem dX6_mark_8 : decode cX6_mark 8 = .ok (.ldc 91, 2) := by decide +kernel
theorem dX6_mark_10 : decode cX6_mark 10 = .ok (.ireturn, 1) := by decide +kernel
theorem dX6_mark_11 : decode cX6_mark 11 = .ok (.iload_n 1, 1) := by decide +kernel
theorem dX6_mark_12 : decode cX6_mark 12 = .ok (.tableswitch 76 0 5 #[40, 46, 52, 58, 64, 70], 40) := by decide +kernel
theorem dX6_mark_52 : decode cX6_mark 52 = .ok (.aload_n 0, 1) := by decide +kernel
theorem dX6_mark_53 : decode cX6_mark 53 = .ok (.iload_n 2, 1) := by decide +kernel
theorem dX6_mark_54 : decode cX6_mark 54 = .ok (.invokevirtual 232, 3) := by decide +kernel
theorem dX6_mark_57 : decode cX6_mark 57 = .ok (.ireturn, 1) := by decide +kernel
theorem dX6_mark_58 : decode cX6_mark 58 = .ok (.aload_n 0, 1) := by decide +kernel
theorem dX6_mark_59 : decode cX6_mark 59 = .ok (.iload_n 2, 1) := by decide +kernel
theorem dX6_mark_60 : decode cX6_mark 60 = .ok (.invokevirtual 235, 3) := by decide +kernel
theorem dX6_mark_63 : decode cX6_mark 63 = .ok (.ireturn, 1) := by decide +kernel
theorem dX6_mark_64 : decode cX6_mark 64 = .ok (.aload_n 0, 1) := by decide +kernel
theorem dX6_mark_65 : decode cX6_mark 65 = .ok (.iload_n 2, 1) := by decide +kernel
theorem dX6_mark_66 : decode cX6_mark 66 = .ok (.invokevirtual 238, 3) := by decide +kernel
theorem dX6_mark_69 : decode cX6_mark 69 = .ok (.ireturn, 1) := by decide +kernel
theorem dX6_mark_70 : decode cX6_mark 70 = .ok (.aload_n 0, 1) := by decide +kernel
theorem dX6_mark_71 : decode cX6_mark 71 = .ok (.iload_n 2, 1) := by decide +kernel
theorem dX6_mark_72 : decode cX6_mark 72 = .ok (.invokevirtual 241, 3) := by decide +kernel
theorem dX6_mark_75 : decode cX6_mark 75 = .ok (.ireturn, 1) := by decide +kernel
theorem dX6_mark_76 : decode cX6_mark 76 = .ok (.aload_n 0, 1) := by decide +kernel
theorem dX6_mark_77 : decode cX6_mark 77 = .ok (.iload_n 2, 1) := by decide +kernel
theorem dX6_mark_78 : decode cX6_mark 78 = .ok (.invokevirtual 244, 3) := by decide +kernel
theorem dX6_mark_81 : decode cX6_mark 81 = .ok (.ireturn, 1) := by decide +kernel
theorem dX6_mark_82 : decode cX6_mark 82 = .ok (.aload_n 0, 1) := by decide +kernel
theorem dX6_mark_83 : decode cX6_mark 83 = .ok (.iload_n 2, 1) := by decide +kernel
theorem dX6_mark_84 : decode cX6_mark 84 = .ok (.invokevirtual 247, 3) := by decide +kernel
theorem dX6_mark_87 : decode cX6_mark 87 = .ok (.ireturn, 1) := by decide +kernel
theorem dX6_mark_88 : decode cX6_mark 88 = .ok (.ldc 91, 2) := by decide +kernel
theorem dX6_mark_90 : decode cX6_mark 90 = .ok (.ireturn, 1) := by decide +kernel
theorem dX6_keep_0 : decode cX6_keep 0 = .ok (.iload_n 1, 1) := by decide +kernel
theorem dX6_keep_1 : decode cX6_keep 1 = .ok (.ifCond .lt 8, 3) := by decide +kernel
theorem dX6_keep_4 : decode cX6_keep 4 = .ok (.iload_n 1, 1) := by decide +kernel
theorem dX6_keep_5 : decode cX6_keep 5 = .ok (.iconst 2, 1) := by decide +kernel
theorem dX6_keep_6 : decode cX6_keep 6 = .ok (.if_icmp .lt 5, 3) := by decide +kernel
theorem dX6_keep_9 : decode cX6_keep 9 = .ok (.iconst (-1), 1) := by decide +kernel
theorem dX6_keep_10 : decode cX6_keep 10 = .ok (.ireturn, 1) := by decide +kernel
theorem dX6_keep_11 : decode cX6_keep 11 = .ok (.aload_n 0, 1) := by decide +kernel
theorem dX6_keep_12 : decode cX6_keep 12 = .ok (.getfield 55, 3) := by decide +kernel
theorem dX6_keep_15 : decode cX6_keep 15 = .ok (.iload_n 1, 1) := by decide +kernel
theorem dX6_keep_16 : decode cX6_keep 16 = .ok (.aaload, 1) := by decide +kernel
theorem dX6_keep_17 : decode cX6_keep 17 = .ok (.aload_n 0, 1) := by decide +kernel
theorem dX6_keep_18 : decode cX6_keep 18 = .ok (.getfield 51, 3) := by decide +kernel
theorem dX6_keep_21 : decode cX6_keep 21 = .ok (.invokevirtual 250, 3) := by decide +kernel
theorem dX6_keep_24 : decode cX6_keep 24 = .ok (.aload_n 0, 1) := by decide +kernel
theorem dX6_keep_25 : decode cX6_keep 25 = .ok (.getfield 59, 3) := by decide +kernel
theorem dX6_keep_28 : decode cX6_keep 28 = .ok (.iload_n 1, 1) := by decide +kernel
theorem dX6_keep_29 : decode cX6_keep 29 = .ok (.iconst 1, 1) := by decide +kernel
theorem dX6_keep_30 : decode cX6_keep 30 = .ok (.bastore, 1) := by decide +kernel
theorem dX6_keep_31 : decode cX6_keep 31 = .ok (.aload_n 0, 1) := by decide +kernel
theorem dX6_keep_32 : decode cX6_keep 32 = .ok (.getfield 51, 3) := by decide +kernel
theorem dX6_keep_35 : decode cX6_keep 35 = .ok (.getfield 125, 3) := by decide +kernel
theorem dX6_keep_38 : decode cX6_keep 38 = .ok (.getfield 129, 3) := by decide +kernel
theorem dX6_keep_41 : decode cX6_keep 41 = .ok (.ireturn, 1) := by decide +kernel
theorem dX6_back_0 : decode cX6_back 0 = .ok (.iload_n 1, 1) := by decide +kernel
theorem dX6_back_1 : decode cX6_back 1 = .ok (.ifCond .lt 8, 3) := by decide +kernel
theorem dX6_back_4 : decode cX6_back 4 = .ok (.iload_n 1, 1) := by decide +kernel
theorem dX6_back_5 : decode cX6_back 5 = .ok (.iconst 2, 1) := by decide +kernel
theorem dX6_back_6 : decode cX6_back 6 = .ok (.if_icmp .lt 5, 3) := by decide +kernel
theorem dX6_back_9 : decode cX6_back 9 = .ok (.iconst (-1), 1) := by decide +kernel
theorem dX6_back_10 : decode cX6_back 10 = .ok (.ireturn, 1) := by decide +kernel
theorem dX6_back_11 : decode cX6_back 11 = .ok (.aload_n 0, 1) := by decide +kernel
theorem dX6_back_12 : decode cX6_back 12 = .ok (.getfield 59, 3) := by decide +kernel
theorem dX6_back_15 : decode cX6_back 15 = .ok (.iload_n 1, 1) := by decide +kernel
theorem dX6_back_16 : decode cX6_back 16 = .ok (.baload, 1) := by decide +kernel
theorem dX6_back_17 : decode cX6_back 17 = .ok (.ifCond .ne 6, 3) := by decide +kernel
theorem dX6_back_20 : decode cX6_back 20 = .ok (.bipush (-2), 2) := by decide +kernel
theorem dX6_back_22 : decode cX6_back 22 = .ok (.ireturn, 1) := by decide +kernel
theorem dX6_back_23 : decode cX6_back 23 = .ok (.aload_n 0, 1) := by decide +kernel
theorem dX6_back_24 : decode cX6_back 24 = .ok (.getfield 51, 3) := by decide +kernel
theorem dX6_back_27 : decode cX6_back 27 = .ok (.aload_n 0, 1) := by decide +kernel
theorem dX6_back_28 : decode cX6_back 28 = .ok (.getfield 55, 3) := by decide +kernel
theorem dX6_back_31 : decode cX6_back 31 = .ok (.iload_n 1, 1) := by decide +kernel
theorem dX6_back_32 : decode cX6_back 32 = .ok (.aaload, 1) := by decide +kernel
theorem dX6_back_33 : decode cX6_back 33 = .ok (.invokevirtual 250, 3) := by decide +kernel
theorem dX6_back_36 : decode cX6_back 36 = .ok (.aload_n 0, 1) := by decide +kernel
theorem dX6_back_37 : decode cX6_back 37 = .ok (.getfield 44, 3) := by decide +kernel
theorem dX6_back_40 : decode cX6_back 40 = .ok (.invokevirtual 84, 3) := by decide +kernel
theorem dX6_back_43 : decode cX6_back 43 = .ok (.aload_n 0, 1) := by decide +kernel
theorem dX6_back_44 : decode cX6_back 44 = .ok (.getfield 51, 3) := by decide +kernel
theorem dX6_back_47 : decode cX6_back 47 = .ok (.getfield 125, 3) := by decide +kernel
theorem dX6_back_50 : decode cX6_back 50 = .ok (.getfield 129, 3) := by decide +kernel
theorem dX6_back_53 : decode cX6_back 53 = .ok (.ireturn, 1) := by decide +kernel
theorem dX6_count_0 : decode cX6_count 0 = .ok (.iload_n 1, 1) := by decide +kernel
theorem dX6_count_1 : decode cX6_count 1 = .ok (.tableswitch 132 0 9 #[55, 63, 71, 79, 87, 98, 106, 114, 119, 127], 55) := by decide +kernel
theorem dX6_count_56 : decode cX6_count 56 = .ok (.aload_n 0, 1) := by decide +kernel
theorem dX6_count_57 : decode cX6_count 57 = .ok (.getfield 20, 3) := by decide +kernel
theorem dX6_count_60 : decode cX6_count 60 = .ok (.getfield 254, 3) := by decide +kernel
theorem dX6_count_63 : decode cX6_count 63 = .ok (.ireturn, 1) := by decide +kernel
theorem dX6_count_64 : decode cX6_count 64 = .ok (.aload_n 0, 1) := by decide +kernel
theorem dX6_count_65 : decode cX6_count 65 = .ok (.getfield 20, 3) := by decide +kernel
theorem dX6_count_68 : decode cX6_count 68 = .ok (.getfield 211, 3) := by decide +kernel
theorem dX6_count_71 : decode cX6_count 71 = .ok (.ireturn, 1) := by decide +kernel
theorem dX6_count_72 : decode cX6_count 72 = .ok (.aload_n 0, 1) := by decide +kernel
theorem dX6_count_73 : decode cX6_count 73 = .ok (.getfield 20, 3) := by decide +kernel
theorem dX6_count_76 : decode cX6_count 76 = .ok (.getfield 257, 3) := by decide +kernel
theorem dX6_count_79 : decode cX6_count 79 = .ok (.ireturn, 1) := by decide +kernel
theorem dX6_count_80 : decode cX6_count 80 = .ok (.aload_n 0, 1) := by decide +kernel
theorem dX6_count_81 : decode cX6_count 81 = .ok (.getfield 20, 3) := by decide +kernel
theorem dX6_count_84 : decode cX6_count 84 = .ok (.getfield 260, 3) := by decide +kernel
theorem dX6_count_87 : decode cX6_count 87 = .ok (.ireturn, 1) := by decide +kernel
theorem dX6_count_88 : decode cX6_count 88 = .ok (.aload_n 0, 1) := by decide +kernel
theorem dX6_count_89 : decode cX6_count 89 = .ok (.getfield 51, 3) := by decide +kernel
theorem dX6_count_92 : decode cX6_count 92 = .ok (.getfield 125, 3) := by decide +kernel
theorem dX6_count_95 : decode cX6_count 95 = .ok (.getfield 129, 3) := by decide +kernel
theorem dX6_count_98 : decode cX6_count 98 = .ok (.ireturn, 1) := by decide +kernel
theorem dX6_count_99 : decode cX6_count 99 = .ok (.aload_n 0, 1) := by decide +kernel
theorem dX6_count_100 : decode cX6_count 100 = .ok (.getfield 20, 3) := by decide +kernel
theorem dX6_count_103 : decode cX6_count 103 = .ok (.invokevirtual 263, 3) := by decide +kernel
theorem dX6_count_106 : decode cX6_count 106 = .ok (.ireturn, 1) := by decide +kernel
theorem dX6_count_107 : decode cX6_count 107 = .ok (.aload_n 0, 1) := by decide +kernel
theorem dX6_count_108 : decode cX6_count 108 = .ok (.getfield 20, 3) := by decide +kernel
theorem dX6_count_111 : decode cX6_count 111 = .ok (.getfield 266, 3) := by decide +kernel
theorem dX6_count_114 : decode cX6_count 114 = .ok (.ireturn, 1) := by decide +kernel
theorem dX6_count_115 : decode cX6_count 115 = .ok (.aload_n 0, 1) := by decide +kernel
theorem dX6_count_116 : decode cX6_count 116 = .ok (.getfield 69, 3) := by decide +kernel
theorem dX6_count_119 : decode cX6_count 119 = .ok (.ireturn, 1) := by decide +kernel
theorem dX6_count_120 : decode cX6_count 120 = .ok (.aload_n 0, 1) := by decide +kernel
theorem dX6_count_121 : decode cX6_count 121 = .ok (.getfield 51, 3) := by decide +kernel
theorem dX6_count_124 : decode cX6_count 124 = .ok (.getfield 151, 3) := by decide +kernel
theorem dX6_count_127 : decode cX6_count 127 = .ok (.ireturn, 1) := by decide +kernel
theorem dX6_count_128 : decode cX6_count 128 = .ok (.aload_n 0, 1) := by decide +kernel
theorem dX6_count_129 : decode cX6_count 129 = .ok (.getfield 13, 3) := by decide +kernel
theorem dX6_count_132 : decode cX6_count 132 = .ok (.ireturn, 1) := by decide +kernel
theorem dX6_count_133 : decode cX6_count 133 = .ok (.iconst (-1), 1) := by decide +kernel
theorem dX6_count_134 : decode cX6_count 134 = .ok (.ireturn, 1) := by decide +kernel
theorem dX6_trace_0 : decode cX6_trace 0 = .ok (.aload_n 0, 1) := by decide +kernel
theorem dX6_trace_1 : decode cX6_trace 1 = .ok (.getfield 72, 3) := by decide +kernel
theorem dX6_trace_4 : decode cX6_trace 4 = .ok (.lreturn, 1) := by decide +kernel
theorem dX6_isYear_0 : decode cX6_isYear 0 = .ok (.iload_n 1, 1) := by decide +kernel
theorem dX6_isYear_1 : decode cX6_isYear 1 = .ok (.ifCond .lt 18, 3) := by decide +kernel
theorem dX6_isYear_4 : decode cX6_isYear 4 = .ok (.iload_n 1, 1) := by decide +kernel
theorem dX6_isYear_5 : decode cX6_isYear 5 = .ok (.aload_n 0, 1) := by decide +kernel
theorem dX6_isYear_6 : decode cX6_isYear 6 = .ok (.getfield 20, 3) := by decide +kernel
theorem dX6_isYear_9 : decode cX6_isYear 9 = .ok (.getfield 254, 3) := by decide +kernel
theorem dX6_isYear_12 : decode cX6_isYear 12 = .ok (.if_icmp .ge 7, 3) := by decide +kernel
theorem dX6_isYear_15 : decode cX6_isYear 15 = .ok (.iconst 1, 1) := by decide +kernel
theorem dX6_isYear_16 : decode cX6_isYear 16 = .ok (.goto 4, 3) := by decide +kernel
theorem dX6_isYear_19 : decode cX6_isYear 19 = .ok (.iconst 0, 1) := by decide +kernel
theorem dX6_isYear_20 : decode cX6_isYear 20 = .ok (.ireturn, 1) := by decide +kernel
theorem dX6_isState_0 : decode cX6_isState 0 = .ok (.iload_n 1, 1) := by decide +kernel
theorem dX6_isState_1 : decode cX6_isState 1 = .ok (.ifCond .lt 18, 3) := by decide +kernel
theorem dX6_isState_4 : decode cX6_isState 4 = .ok (.iload_n 1, 1) := by decide +kernel
theorem dX6_isState_5 : decode cX6_isState 5 = .ok (.aload_n 0, 1) := by decide +kernel
theorem dX6_isState_6 : decode cX6_isState 6 = .ok (.getfield 20, 3) := by decide +kernel
theorem dX6_isState_9 : decode cX6_isState 9 = .ok (.getfield 211, 3) := by decide +kernel
theorem dX6_isState_12 : decode cX6_isState 12 = .ok (.if_icmp .ge 7, 3) := by decide +kernel
theorem dX6_isState_15 : decode cX6_isState 15 = .ok (.iconst 1, 1) := by decide +kernel
theorem dX6_isState_16 : decode cX6_isState 16 = .ok (.goto 4, 3) := by decide +kernel
theorem dX6_isState_19 : decode cX6_isState 19 = .ok (.iconst 0, 1) := by decide +kernel
theorem dX6_isState_20 : decode cX6_isState 20 = .ok (.ireturn, 1) := by decide +kernel
theorem dX6_isTrial_0 : decode cX6_isTrial 0 = .ok (.iload_n 1, 1) := by decide +kernel
theorem dX6_isTrial_1 : decode cX6_isTrial 1 = .ok (.ifCond .lt 18, 3) := by decide +kernel
theorem dX6_isTrial_4 : decode cX6_isTrial 4 = .ok (.iload_n 1, 1) := by decide +kernel
theorem dX6_isTrial_5 : decode cX6_isTrial 5 = .ok (.aload_n 0, 1) := by decide +kernel
theorem dX6_isTrial_6 : decode cX6_isTrial 6 = .ok (.getfield 20, 3) := by decide +kernel
theorem dX6_isTrial_9 : decode cX6_isTrial 9 = .ok (.getfield 257, 3) := by decide +kernel
theorem dX6_isTrial_12 : decode cX6_isTrial 12 = .ok (.if_icmp .ge 7, 3) := by decide +kernel
theorem dX6_isTrial_15 : decode cX6_isTrial 15 = .ok (.iconst 1, 1) := by decide +kernel
theorem dX6_isTrial_16 : decode cX6_isTrial 16 = .ok (.goto 4, 3) := by decide +kernel
theorem dX6_isTrial_19 : decode cX6_isTrial 19 = .ok (.iconst 0, 1) := by decide +kernel
theorem dX6_isTrial_20 : decode cX6_isTrial 20 = .ok (.ireturn, 1) := by decide +kernel
theorem dX6_isDeed_0 : decode cX6_isDeed 0 = .ok (.iload_n 1, 1) := by decide +kernel
theorem dX6_isDeed_1 : decode cX6_isDeed 1 = .ok (.ifCond .lt 18, 3) := by decide +kernel
theorem dX6_isDeed_4 : decode cX6_isDeed 4 = .ok (.iload_n 1, 1) := by decide +kernel
theorem dX6_isDeed_5 : decode cX6_isDeed 5 = .ok (.aload_n 0, 1) := by decide +kernel
theorem dX6_isDeed_6 : decode cX6_isDeed 6 = .ok (.getfield 20, 3) := by decide +kernel
theorem dX6_isDeed_9 : decode cX6_isDeed 9 = .ok (.getfield 260, 3) := by decide +kernel
theorem dX6_isDeed_12 : decode cX6_isDeed 12 = .ok (.if_icmp .ge 7, 3) := by decide +kernel
theorem dX6_isDeed_15 : decode cX6_isDeed 15 = .ok (.iconst 1, 1) := by decide +kernel
theorem dX6_isDeed_16 : decode cX6_isDeed 16 = .ok (.goto 4, 3) := by decide +kernel
theorem dX6_isDeed_19 : decode cX6_isDeed 19 = .ok (.iconst 0, 1) := by decide +kernel
theorem dX6_isDeed_20 : decode cX6_isDeed 20 = .ok (.ireturn, 1) := by decide +kernel
theorem dX6_findLife_0 : decode cX6_findLife 0 = .ok (.aload_n 0, 1) := by decide +kernel
theorem dX6_findLife_1 : decode cX6_findLife 1 = .ok (.getfield 37, 3) := by decide +kernel
theorem dX6_findLife_4 : decode cX6_findLife 4 = .ok (.aload_n 0, 1) := by decide +kernel
theorem dX6_findLife_5 : decode cX6_findLife 5 = .ok (.getfield 20, 3) := by decide +kernel
theorem dX6_findLife_8 : decode cX6_findLife 8 = .ok (.aload_n 0, 1) := by decide +kernel
theorem dX6_findLife_9 : decode cX6_findLife 9 = .ok (.getfield 51, 3) := by decide +kernel
theorem dX6_findLife_12 : decode cX6_findLife 12 = .ok (.getfield 125, 3) := by decide +kernel
theorem dX6_findLife_15 : decode cX6_findLife 15 = .ok (.invokevirtual 157, 3) := by decide +kernel
theorem dX6_findLife_18 : decode cX6_findLife 18 = .ok (.aload_n 0, 1) := by decide +kernel
theorem dX6_findLife_19 : decode cX6_findLife 19 = .ok (.getfield 37, 3) := by decide +kernel
theorem dX6_findLife_22 : decode cX6_findLife 22 = .ok (.iload_n 1, 1) := by decide +kernel
theorem dX6_findLife_23 : decode cX6_findLife 23 = .ok (.invokevirtual 267, 3) := by decide +kernel
theorem dX6_findLife_26 : decode cX6_findLife 26 = .ok (.ireturn, 1) := by decide +kernel
theorem dX6_innocentBits_0 : decode cX6_innocentBits 0 = .ok (.aload_n 0, 1) := by decide +kernel
theorem dX6_innocentBits_1 : decode cX6_innocentBits 1 = .ok (.getfield 37, 3) := by decide +kernel
theorem dX6_innocentBits_4 : decode cX6_innocentBits 4 = .ok (.aload_n 0, 1) := by decide +kernel
theorem dX6_innocentBits_5 : decode cX6_innocentBits 5 = .ok (.getfield 20, 3) := by decide +kernel
theorem dX6_innocentBits_8 : decode cX6_innocentBits 8 = .ok (.aload_n 0, 1) := by decide +kernel
theorem dX6_innocentBits_9 : decode cX6_innocentBits 9 = .ok (.getfield 51, 3) := by decide +kernel
theorem dX6_innocentBits_12 : decode cX6_innocentBits 12 = .ok (.getfield 125, 3) := by decide +kernel
theorem dX6_innocentBits_15 : decode cX6_innocentBits 15 = .ok (.invokevirtual 157, 3) := by decide +kernel
theorem dX6_innocentBits_18 : decode cX6_innocentBits 18 = .ok (.iconst 0, 1) := by decide +kernel
theorem dX6_innocentBits_19 : decode cX6_innocentBits 19 = .ok (.istore_n 2, 1) := by decide +kernel
theorem dX6_innocentBits_20 : decode cX6_innocentBits 20 = .ok (.iconst 0, 1) := by decide +kernel
theorem dX6_innocentBits_21 : decode cX6_innocentBits 21 = .ok (.istore_n 3, 1) := by decide +kernel
theorem dX6_innocentBits_22 : decode cX6_innocentBits 22 = .ok (.iload_n 3, 1) := by decide +kernel
theorem dX6_innocentBits_23 : decode cX6_innocentBits 23 = .ok (.aload_n 0, 1) := by decide +kernel
theorem dX6_innocentBits_24 : decode cX6_innocentBits 24 = .ok (.getfield 20, 3) := by decide +kernel
theorem dX6_innocentBits_27 : decode cX6_innocentBits 27 = .ok (.getfield 211, 3) := by decide +kernel
theorem dX6_innocentBits_30 : decode cX6_innocentBits 30 = .ok (.if_icmp .ge 34, 3) := by decide +kernel
theorem dX6_innocentBits_33 : decode cX6_innocentBits 33 = .ok (.aload_n 0, 1) := by decide +kernel
theorem dX6_innocentBits_34 : decode cX6_innocentBits 34 = .ok (.getfield 37, 3) := by decide +kernel
theorem dX6_innocentBits_37 : decode cX6_innocentBits 37 = .ok (.iload_n 3, 1) := by decide +kernel
theorem dX6_innocentBits_38 : decode cX6_innocentBits 38 = .ok (.putfield 222, 3) := by decide +kernel
theorem dX6_innocentBits_41 : decode cX6_innocentBits 41 = .ok (.aload_n 0, 1) := by decide +kernel
theorem dX6_innocentBits_42 : decode cX6_innocentBits 42 = .ok (.getfield 37, 3) := by decide +kernel
theorem dX6_innocentBits_45 : decode cX6_innocentBits 45 = .ok (.iload_n 1, 1) := by decide +kernel
theorem dX6_innocentBits_46 : decode cX6_innocentBits 46 = .ok (.invokevirtual 270, 3) := by decide +kernel
theorem dX6_innocentBits_49 : decode cX6_innocentBits 49 = .ok (.ifCond .eq 9, 3) := by decide +kernel
theorem dX6_innocentBits_52 : decode cX6_innocentBits 52 = .ok (.iload_n 2, 1) := by decide +kernel
theorem dX6_innocentBits_53 : decode cX6_innocentBits 53 = .ok (.iconst 1, 1) := by decide +kernel
theorem dX6_innocentBits_54 : decode cX6_innocentBits 54 = .ok (.iload_n 3, 1) := by decide +kernel
theorem dX6_innocentBits_55 : decode cX6_innocentBits 55 = .ok (.ishl, 1) := by decide +kernel
theorem dX6_innocentBits_56 : decode cX6_innocentBits 56 = .ok (.ior, 1) := by decide +kernel
theorem dX6_innocentBits_57 : decode cX6_innocentBits 57 = .ok (.istore_n 2, 1) := by decide +kernel
theorem dX6_innocentBits_58 : decode cX6_innocentBits 58 = .ok (.iinc 3 1, 3) := by decide +kernel
theorem dX6_innocentBits_61 : decode cX6_innocentBits 61 = .ok (.goto (-39), 3) := by decide +kernel
theorem dX6_innocentBits_64 : decode cX6_innocentBits 64 = .ok (.iload_n 2, 1) := by decide +kernel
theorem dX6_innocentBits_65 : decode cX6_innocentBits 65 = .ok (.ireturn, 1) := by decide +kernel
theorem dX6_someLifeFits_0 : decode cX6_someLifeFits 0 = .ok (.aload_n 0, 1) := by decide +kernel
theorem dX6_someLifeFits_1 : decode cX6_someLifeFits 1 = .ok (.getfield 37, 3) := by decide +kernel
theorem dX6_someLifeFits_4 : decode cX6_someLifeFits 4 = .ok (.invokevirtual 178, 3) := by decide +kernel
theorem dX6_someLifeFits_7 : decode cX6_someLifeFits 7 = .ok (.istore_n 1, 1) := by decide +kernel
theorem dX6_someLifeFits_8 : decode cX6_someLifeFits 8 = .ok (.iconst 0, 1) := by decide +kernel
theorem dX6_someLifeFits_9 : decode cX6_someLifeFits 9 = .ok (.istore_n 2, 1) := by decide +kernel
theorem dX6_someLifeFits_10 : decode cX6_someLifeFits 10 = .ok (.iload_n 2, 1) := by decide +kernel
theorem dX6_someLifeFits_11 : decode cX6_someLifeFits 11 = .ok (.iload_n 1, 1) := by decide +kernel
theorem dX6_someLifeFits_12 : decode cX6_someLifeFits 12 = .ok (.if_icmp .ge 29, 3) := by decide +kernel
theorem dX6_someLifeFits_15 : decode cX6_someLifeFits 15 = .ok (.aload_n 0, 1) := by decide +kernel
theorem dX6_someLifeFits_16 : decode cX6_someLifeFits 16 = .ok (.getfield 37, 3) := by decide +kernel
theorem dX6_someLifeFits_19 : decode cX6_someLifeFits 19 = .ok (.iload_n 2, 1) := by decide +kernel
theorem dX6_someLifeFits_20 : decode cX6_someLifeFits 20 = .ok (.invokevirtual 181, 3) := by decide +kernel
theorem dX6_someLifeFits_23 : decode cX6_someLifeFits 23 = .ok (.ifCond .eq 12, 3) := by decide +kernel
theorem dX6_someLifeFits_26 : decode cX6_someLifeFits 26 = .ok (.aload_n 0, 1) := by decide +kernel
theorem dX6_someLifeFits_27 : decode cX6_someLifeFits 27 = .ok (.invokevirtual 273, 3) := by decide +kernel
theorem dX6_someLifeFits_30 : decode cX6_someLifeFits 30 = .ok (.ifCond .eq 5, 3) := by decide +kernel
theorem dX6_someLifeFits_33 : decode cX6_someLifeFits 33 = .ok (.iconst 1, 1) := by decide +kernel
theorem dX6_someLifeFits_34 : decode cX6_someLifeFits 34 = .ok (.ireturn, 1) := by decide +kernel
theorem dX6_someLifeFits_35 : decode cX6_someLifeFits 35 = .ok (.iinc 2 1, 3) := by decide +kernel
theorem dX6_someLifeFits_38 : decode cX6_someLifeFits 38 = .ok (.goto (-28), 3) := by decide +kernel
theorem dX6_someLifeFits_41 : decode cX6_someLifeFits 41 = .ok (.iconst 0, 1) := by decide +kernel
theorem dX6_someLifeFits_42 : decode cX6_someLifeFits 42 = .ok (.ireturn, 1) := by decide +kernel
theorem dX6_allSeenIsSo_0 : decode cX6_allSeenIsSo 0 = .ok (.iconst 0, 1) := by decide +kernel
theorem dX6_allSeenIsSo_1 : decode cX6_allSeenIsSo 1 = .ok (.istore_n 1, 1) := by decide +kernel
theorem dX6_allSeenIsSo_2 : decode cX6_allSeenIsSo 2 = .ok (.iload_n 1, 1) := by decide +kernel
theorem dX6_allSeenIsSo_3 : decode cX6_allSeenIsSo 3 = .ok (.aload_n 0, 1) := by decide +kernel
theorem dX6_allSeenIsSo_4 : decode cX6_allSeenIsSo 4 = .ok (.getfield 69, 3) := by decide +kernel
theorem dX6_allSeenIsSo_7 : decode cX6_allSeenIsSo 7 = .ok (.if_icmp .ge 34, 3) := by decide +kernel
theorem dX6_allSeenIsSo_10 : decode cX6_allSeenIsSo 10 = .ok (.aload_n 0, 1) := by decide +kernel
theorem dX6_allSeenIsSo_11 : decode cX6_allSeenIsSo 11 = .ok (.getfield 37, 3) := by decide +kernel
theorem dX6_allSeenIsSo_14 : decode cX6_allSeenIsSo 14 = .ok (.getfield 171, 3) := by decide +kernel
theorem dX6_allSeenIsSo_17 : decode cX6_allSeenIsSo 17 = .ok (.aload_n 0, 1) := by decide +kernel
theorem dX6_allSeenIsSo_18 : decode cX6_allSeenIsSo 18 = .ok (.getfield 63, 3) := by decide +kernel
theorem dX6_allSeenIsSo_21 : decode cX6_allSeenIsSo 21 = .ok (.iload_n 1, 1) := by decide +kernel
theorem dX6_allSeenIsSo_22 : decode cX6_allSeenIsSo 22 = .ok (.iaload, 1) := by decide +kernel
theorem dX6_allSeenIsSo_23 : decode cX6_allSeenIsSo 23 = .ok (.iaload, 1) := by decide +kernel
theorem dX6_allSeenIsSo_24 : decode cX6_allSeenIsSo 24 = .ok (.aload_n 0, 1) := by decide +kernel
theorem dX6_allSeenIsSo_25 : decode cX6_allSeenIsSo 25 = .ok (.getfield 66, 3) := by decide +kernel
theorem dX6_allSeenIsSo_28 : decode cX6_allSeenIsSo 28 = .ok (.iload_n 1, 1) := by decide +kernel
theorem dX6_allSeenIsSo_29 : decode cX6_allSeenIsSo 29 = .ok (.iaload, 1) := by decide +kernel
theorem dX6_allSeenIsSo_30 : decode cX6_allSeenIsSo 30 = .ok (.if_icmp .eq 5, 3) := by decide +kernel
theorem dX6_allSeenIsSo_33 : decode cX6_allSeenIsSo 33 = .ok (.iconst 0, 1) := by decide +kernel
theorem dX6_allSeenIsSo_34 : decode cX6_allSeenIsSo 34 = .ok (.ireturn, 1) := by decide +kernel
theorem dX6_allSeenIsSo_35 : decode cX6_allSeenIsSo 35 = .ok (.iinc 1 1, 3) := by decide +kernel
theorem dX6_allSeenIsSo_38 : decode cX6_allSeenIsSo 38 = .ok (.goto (-36), 3) := by decide +kernel
theorem dX6_allSeenIsSo_41 : decode cX6_allSeenIsSo 41 = .ok (.iconst 1, 1) := by decide +kernel
theorem dX6_allSeenIsSo_42 : decode cX6_allSeenIsSo 42 = .ok (.ireturn, 1) := by decide +kernel
theorem dX6_commonDivisor_0 : decode cX6_commonDivisor 0 = .ok (.iload_n 0, 1) := by decide +kernel
theorem dX6_commonDivisor_1 : decode cX6_commonDivisor 1 = .ok (.istore_n 2, 1) := by decide +kernel
theorem dX6_commonDivisor_2 : decode cX6_commonDivisor 2 = .ok (.iload_n 1, 1) := by decide +kernel
theorem dX6_commonDivisor_3 : decode cX6_commonDivisor 3 = .ok (.istore_n 3, 1) := by decide +kernel
theorem dX6_commonDivisor_4 : decode cX6_commonDivisor 4 = .ok (.iconst 0, 1) := by decide +kernel
theorem dX6_commonDivisor_5 : decode cX6_commonDivisor 5 = .ok (.istore 4, 2) := by decide +kernel
theorem dX6_commonDivisor_7 : decode cX6_commonDivisor 7 = .ok (.iload 4, 2) := by decide +kernel
theorem dX6_commonDivisor_9 : decode cX6_commonDivisor 9 = .ok (.iload_n 1, 1) := by decide +kernel
theorem dX6_commonDivisor_10 : decode cX6_commonDivisor 10 = .ok (.if_icmp .ge 23, 3) := by decide +kernel
theorem dX6_commonDivisor_13 : decode cX6_commonDivisor 13 = .ok (.iload_n 3, 1) := by decide +kernel
theorem dX6_commonDivisor_14 : decode cX6_commonDivisor 14 = .ok (.ifCond .le 19, 3) := by decide +kernel
theorem dX6_commonDivisor_17 : decode cX6_commonDivisor 17 = .ok (.iload_n 2, 1) := by decide +kernel
theorem dX6_commonDivisor_18 : decode cX6_commonDivisor 18 = .ok (.iload_n 3, 1) := by decide +kernel
theorem dX6_commonDivisor_19 : decode cX6_commonDivisor 19 = .ok (.irem, 1) := by decide +kernel
theorem dX6_commonDivisor_20 : decode cX6_commonDivisor 20 = .ok (.istore 5, 2) := by decide +kernel
theorem dX6_commonDivisor_22 : decode cX6_commonDivisor 22 = .ok (.iload_n 3, 1) := by decide +kernel
theorem dX6_commonDivisor_23 : decode cX6_commonDivisor 23 = .ok (.istore_n 2, 1) := by decide +kernel
theorem dX6_commonDivisor_24 : decode cX6_commonDivisor 24 = .ok (.iload 5, 2) := by decide +kernel
theorem dX6_commonDivisor_26 : decode cX6_commonDivisor 26 = .ok (.istore_n 3, 1) := by decide +kernel
theorem dX6_commonDivisor_27 : decode cX6_commonDivisor 27 = .ok (.iinc 4 1, 3) := by decide +kernel
theorem dX6_commonDivisor_30 : decode cX6_commonDivisor 30 = .ok (.goto (-23), 3) := by decide +kernel
theorem dX6_commonDivisor_33 : decode cX6_commonDivisor 33 = .ok (.iload_n 2, 1) := by decide +kernel
theorem dX6_commonDivisor_34 : decode cX6_commonDivisor 34 = .ok (.ireturn, 1) := by decide +kernel
theorem dX6_markOfSelf_0 : decode cX6_markOfSelf 0 = .ok (.aload_n 0, 1) := by decide +kernel
theorem dX6_markOfSelf_1 : decode cX6_markOfSelf 1 = .ok (.dup, 1) := by decide +kernel
theorem dX6_markOfSelf_2 : decode cX6_markOfSelf 2 = .ok (.getfield 72, 3) := by decide +kernel
theorem dX6_markOfSelf_5 : decode cX6_markOfSelf 5 = .ok (.lconst 1, 1) := by decide +kernel
theorem dX6_markOfSelf_6 : decode cX6_markOfSelf 6 = .ok (.ladd, 1) := by decide +kernel
theorem dX6_markOfSelf_7 : decode cX6_markOfSelf 7 = .ok (.putfield 72, 3) := by decide +kernel
theorem dX6_markOfSelf_10 : decode cX6_markOfSelf 10 = .ok (.aload_n 0, 1) := by decide +kernel
theorem dX6_markOfSelf_11 : decode cX6_markOfSelf 11 = .ok (.getfield 20, 3) := by decide +kernel
theorem dX6_markOfSelf_14 : decode cX6_markOfSelf 14 = .ok (.getfield 92, 3) := by decide +kernel
theorem dX6_markOfSelf_17 : decode cX6_markOfSelf 17 = .ok (.iload_n 1, 1) := by decide +kernel
theorem dX6_markOfSelf_18 : decode cX6_markOfSelf 18 = .ok (.iaload, 1) := by decide +kernel
theorem dX6_markOfSelf_19 : decode cX6_markOfSelf 19 = .ok (.ireturn, 1) := by decide +kernel
theorem dX6_markOfChild_0 : decode cX6_markOfChild 0 = .ok (.aload_n 0, 1) := by decide +kernel
theorem dX6_markOfChild_1 : decode cX6_markOfChild 1 = .ok (.dup, 1) := by decide +kernel
theorem dX6_markOfChild_2 : decode cX6_markOfChild 2 = .ok (.getfield 72, 3) := by decide +kernel
theorem dX6_markOfChild_5 : decode cX6_markOfChild 5 = .ok (.ldc2_w 276, 3) := by decide +kernel
theorem dX6_markOfChild_8 : decode cX6_markOfChild 8 = .ok (.ladd, 1) := by decide +kernel
theorem dX6_markOfChild_9 : decode cX6_markOfChild 9 = .ok (.putfield 72, 3) := by decide +kernel
theorem dX6_markOfChild_12 : decode cX6_markOfChild 12 = .ok (.aload_n 0, 1) := by decide +kernel
theorem dX6_markOfChild_13 : decode cX6_markOfChild 13 = .ok (.iload_n 1, 1) := by decide +kernel
theorem dX6_markOfChild_14 : decode cX6_markOfChild 14 = .ok (.invokevirtual 232, 3) := by decide +kernel
theorem dX6_markOfChild_17 : decode cX6_markOfChild 17 = .ok (.aload_n 0, 1) := by decide +kernel
theorem dX6_markOfChild_18 : decode cX6_markOfChild 18 = .ok (.getfield 20, 3) := by decide +kernel
theorem dX6_markOfChild_21 : decode cX6_markOfChild 21 = .ok (.getfield 98, 3) := by decide +kernel
theorem dX6_markOfChild_24 : decode cX6_markOfChild 24 = .ok (.iload_n 1, 1) := by decide +kernel
theorem dX6_markOfChild_25 : decode cX6_markOfChild 25 = .ok (.iconst 3, 1) := by decide +kernel
theorem dX6_markOfChild_26 : decode cX6_markOfChild 26 = .ok (.imul, 1) := by decide +kernel
theorem dX6_markOfChild_27 : decode cX6_markOfChild 27 = .ok (.iconst 0, 1) := by decide +kernel
theorem dX6_markOfChild_28 : decode cX6_markOfChild 28 = .ok (.iadd, 1) := by decide +kernel
theorem dX6_markOfChild_29 : decode cX6_markOfChild 29 = .ok (.iaload, 1) := by decide +kernel
theorem dX6_markOfChild_30 : decode cX6_markOfChild 30 = .ok (.iadd, 1) := by decide +kernel
theorem dX6_markOfChild_31 : decode cX6_markOfChild 31 = .ok (.ireturn, 1) := by decide +kernel
theorem dX6_markOfElder_0 : decode cX6_markOfElder 0 = .ok (.aload_n 0, 1) := by decide +kernel
theorem dX6_markOfElder_1 : decode cX6_markOfElder 1 = .ok (.dup, 1) := by decide +kernel
theorem dX6_markOfElder_2 : decode cX6_markOfElder 2 = .ok (.getfield 72, 3) := by decide +kernel
theorem dX6_markOfElder_5 : decode cX6_markOfElder 5 = .ok (.ldc2_w 278, 3) := by decide +kernel
theorem dX6_markOfElder_8 : decode cX6_markOfElder 8 = .ok (.ladd, 1) := by decide +kernel
theorem dX6_markOfElder_9 : decode cX6_markOfElder 9 = .ok (.putfield 72, 3) := by decide +kernel
theorem dX6_markOfElder_12 : decode cX6_markOfElder 12 = .ok (.aload_n 0, 1) := by decide +kernel
theorem dX6_markOfElder_13 : decode cX6_markOfElder 13 = .ok (.iload_n 1, 1) := by decide +kernel
theorem dX6_markOfElder_14 : decode cX6_markOfElder 14 = .ok (.invokevirtual 232, 3) := by decide +kernel
theorem dX6_markOfElder_17 : decode cX6_markOfElder 17 = .ok (.aload_n 0, 1) := by decide +kernel
theorem dX6_markOfElder_18 : decode cX6_markOfElder 18 = .ok (.getfield 51, 3) := by decide +kernel
theorem dX6_markOfElder_21 : decode cX6_markOfElder 21 = .ok (.getfield 125, 3) := by decide +kernel
theorem dX6_markOfElder_24 : decode cX6_markOfElder 24 = .ok (.getfield 129, 3) := by decide +kernel
theorem dX6_markOfElder_27 : decode cX6_markOfElder 27 = .ok (.isub, 1) := by decide +kernel
theorem dX6_markOfElder_28 : decode cX6_markOfElder 28 = .ok (.ireturn, 1) := by decide +kernel
theorem dX6_markOfBitter_0 : decode cX6_markOfBitter 0 = .ok (.aload_n 0, 1) := by decide +kernel
theorem dX6_markOfBitter_1 : decode cX6_markOfBitter 1 = .ok (.dup, 1) := by decide +kernel
theorem dX6_markOfBitter_2 : decode cX6_markOfBitter 2 = .ok (.getfield 72, 3) := by decide +kernel
theorem dX6_markOfBitter_5 : decode cX6_markOfBitter 5 = .ok (.ldc2_w 280, 3) := by decide +kernel
theorem dX6_markOfBitter_8 : decode cX6_markOfBitter 8 = .ok (.ladd, 1) := by decide +kernel
theorem dX6_markOfBitter_9 : decode cX6_markOfBitter 9 = .ok (.putfield 72, 3) := by decide +kernel
theorem dX6_markOfBitter_12 : decode cX6_markOfBitter 12 = .ok (.aload_n 0, 1) := by decide +kernel
theorem dX6_markOfBitter_13 : decode cX6_markOfBitter 13 = .ok (.iload_n 1, 1) := by decide +kernel
theorem dX6_markOfBitter_14 : decode cX6_markOfBitter 14 = .ok (.invokevirtual 235, 3) := by decide +kernel
theorem dX6_markOfBitter_17 : decode cX6_markOfBitter 17 = .ok (.iconst 2, 1) := by decide +kernel
theorem dX6_markOfBitter_18 : decode cX6_markOfBitter 18 = .ok (.imul, 1) := by decide +kernel
theorem dX6_markOfBitter_19 : decode cX6_markOfBitter 19 = .ok (.ireturn, 1) := by decide +kernel
theorem dX6_markOfLenient_0 : decode cX6_markOfLenient 0 = .ok (.aload_n 0, 1) := by decide +kernel
theorem dX6_markOfLenient_1 : decode cX6_markOfLenient 1 = .ok (.dup, 1) := by decide +kernel
theorem dX6_markOfLenient_2 : decode cX6_markOfLenient 2 = .ok (.getfield 72, 3) := by decide +kernel
theorem dX6_markOfLenient_5 : decode cX6_markOfLenient 5 = .ok (.ldc2_w 282, 3) := by decide +kernel
theorem dX6_markOfLenient_8 : decode cX6_markOfLenient 8 = .ok (.ladd, 1) := by decide +kernel
theorem dX6_markOfLenient_9 : decode cX6_markOfLenient 9 = .ok (.putfield 72, 3) := by decide +kernel
theorem dX6_markOfLenient_12 : decode cX6_markOfLenient 12 = .ok (.aload_n 0, 1) := by decide +kernel
theorem dX6_markOfLenient_13 : decode cX6_markOfLenient 13 = .ok (.iload_n 1, 1) := by decide +kernel
theorem dX6_markOfLenient_14 : decode cX6_markOfLenient 14 = .ok (.invokevirtual 238, 3) := by decide +kernel
theorem dX6_markOfLenient_17 : decode cX6_markOfLenient 17 = .ok (.aload_n 0, 1) := by decide +kernel
theorem dX6_markOfLenient_18 : decode cX6_markOfLenient 18 = .ok (.getfield 20, 3) := by decide +kernel
theorem dX6_markOfLenient_21 : decode cX6_markOfLenient 21 = .ok (.getfield 257, 3) := by decide +kernel
theorem dX6_markOfLenient_24 : decode cX6_markOfLenient 24 = .ok (.iadd, 1) := by decide +kernel
theorem dX6_markOfLenient_25 : decode cX6_markOfLenient 25 = .ok (.ireturn, 1) := by decide +kernel
theorem dX6_markOfGhost_0 : decode cX6_markOfGhost 0 = .ok (.aload_n 0, 1) := by decide +kernel
theorem dX6_markOfGhost_1 : decode cX6_markOfGhost 1 = .ok (.dup, 1) := by decide +kernel
theorem dX6_markOfGhost_2 : decode cX6_markOfGhost 2 = .ok (.getfield 72, 3) := by decide +kernel
theorem dX6_markOfGhost_5 : decode cX6_markOfGhost 5 = .ok (.ldc2_w 284, 3) := by decide +kernel
theorem dX6_markOfGhost_8 : decode cX6_markOfGhost 8 = .ok (.ladd, 1) := by decide +kernel
theorem dX6_markOfGhost_9 : decode cX6_markOfGhost 9 = .ok (.putfield 72, 3) := by decide +kernel
theorem dX6_markOfGhost_12 : decode cX6_markOfGhost 12 = .ok (.aload_n 0, 1) := by decide +kernel
theorem dX6_markOfGhost_13 : decode cX6_markOfGhost 13 = .ok (.iload_n 1, 1) := by decide +kernel
theorem dX6_markOfGhost_14 : decode cX6_markOfGhost 14 = .ok (.invokevirtual 232, 3) := by decide +kernel
theorem dX6_markOfGhost_17 : decode cX6_markOfGhost 17 = .ok (.aload_n 0, 1) := by decide +kernel
theorem dX6_markOfGhost_18 : decode cX6_markOfGhost 18 = .ok (.getfield 20, 3) := by decide +kernel
theorem dX6_markOfGhost_21 : decode cX6_markOfGhost 21 = .ok (.getfield 95, 3) := by decide +kernel
theorem dX6_markOfGhost_24 : decode cX6_markOfGhost 24 = .ok (.iload_n 1, 1) := by decide +kernel
theorem dX6_markOfGhost_25 : decode cX6_markOfGhost 25 = .ok (.iaload, 1) := by decide +kernel
theorem dX6_markOfGhost_26 : decode cX6_markOfGhost 26 = .ok (.bipush 9, 2) := by decide +kernel
theorem dX6_markOfGhost_28 : decode cX6_markOfGhost 28 = .ok (.imul, 1) := by decide +kernel
theorem dX6_markOfGhost_29 : decode cX6_markOfGhost 29 = .ok (.iadd, 1) := by decide +kernel
theorem dX6_markOfGhost_30 : decode cX6_markOfGhost 30 = .ok (.ireturn, 1) := by decide +kernel
theorem dX7_in_0 : decode cX7_in 0 = .ok (.lload_n 0, 1) := by decide +kernel
theorem dX7_in_1 : decode cX7_in 1 = .ok (.lload_n 2, 1) := by decide +kernel
theorem dX7_in_2 : decode cX7_in 2 = .ok (.lcmp, 1) := by decide +kernel
theorem dX7_in_3 : decode cX7_in 3 = .ok (.ifCond .lt 14, 3) := by decide +kernel
theorem dX7_in_6 : decode cX7_in 6 = .ok (.lload_n 0, 1) := by decide +kernel
theorem dX7_in_7 : decode cX7_in 7 = .ok (.lload 4, 2) := by decide +kernel
theorem dX7_in_9 : decode cX7_in 9 = .ok (.lcmp, 1) := by decide +kernel
theorem dX7_in_10 : decode cX7_in 10 = .ok (.ifCond .gt 7, 3) := by decide +kernel
theorem dX7_in_13 : decode cX7_in 13 = .ok (.iconst 1, 1) := by decide +kernel
theorem dX7_in_14 : decode cX7_in 14 = .ok (.goto 4, 3) := by decide +kernel
theorem dX7_in_17 : decode cX7_in 17 = .ok (.iconst 0, 1) := by decide +kernel
theorem dX7_in_18 : decode cX7_in 18 = .ok (.ireturn, 1) := by decide +kernel
theorem dX7_init_0 : decode cX7_init 0 = .ok (.aload_n 0, 1) := by decide +kernel
theorem dX7_init_1 : decode cX7_init 1 = .ok (.invokespecial 1, 3) := by decide +kernel
theorem dX7_init_4 : decode cX7_init 4 = .ok (.aload_n 0, 1) := by decide +kernel
theorem dX7_init_5 : decode cX7_init 5 = .ok (.sipush 200, 3) := by decide +kernel
theorem dX7_init_8 : decode cX7_init 8 = .ok (.newarray .int, 2) := by decide +kernel
theorem dX7_init_10 : decode cX7_init 10 = .ok (.putfield 7, 3) := by decide +kernel
theorem dX7_init_13 : decode cX7_init 13 = .ok (.aload_n 0, 1) := by decide +kernel
theorem dX7_init_14 : decode cX7_init 14 = .ok (.bipush 55, 2) := by decide +kernel
theorem dX7_init_16 : decode cX7_init 16 = .ok (.newarray .int, 2) := by decide +kernel
theorem dX7_init_18 : decode cX7_init 18 = .ok (.putfield 13, 3) := by decide +kernel
theorem dX7_init_21 : decode cX7_init 21 = .ok (.aload_n 0, 1) := by decide +kernel
theorem dX7_init_22 : decode cX7_init 22 = .ok (.bipush 55, 2) := by decide +kernel
theorem dX7_init_24 : decode cX7_init 24 = .ok (.newarray .int, 2) := by decide +kernel
theorem dX7_init_26 : decode cX7_init 26 = .ok (.putfield 16, 3) := by decide +kernel
theorem dX7_init_29 : decode cX7_init 29 = .ok (.aload_n 0, 1) := by decide +kernel
theorem dX7_init_30 : decode cX7_init 30 = .ok (.bipush 16, 2) := by decide +kernel
theorem dX7_init_32 : decode cX7_init 32 = .ok (.newarray .int, 2) := by decide +kernel
theorem dX7_init_34 : decode cX7_init 34 = .ok (.putfield 19, 3) := by decide +kernel
theorem dX7_init_37 : decode cX7_init 37 = .ok (.aload_n 0, 1) := by decide +kernel
theorem dX7_init_38 : decode cX7_init 38 = .ok (.sipush 130, 3) := by decide +kernel
theorem dX7_init_41 : decode cX7_init 41 = .ok (.newarray .int, 2) := by decide +kernel
theorem dX7_init_43 : decode cX7_init 43 = .ok (.putfield 22, 3) := by decide +kernel
theorem dX7_init_46 : decode cX7_init 46 = .ok (.aload_n 0, 1) := by decide +kernel
theorem dX7_init_47 : decode cX7_init 47 = .ok (.bipush 16, 2) := by decide +kernel
theorem dX7_init_49 : decode cX7_init 49 = .ok (.newarray .int, 2) := by decide +kernel
theorem dX7_init_51 : decode cX7_init 51 = .ok (.putfield 25, 3) := by decide +kernel
theorem dX7_init_54 : decode cX7_init 54 = .ok (.aload_n 0, 1) := by decide +kernel
theorem dX7_init_55 : decode cX7_init 55 = .ok (.bipush 27, 2) := by decide +kernel
theorem dX7_init_57 : decode cX7_init 57 = .ok (.newarray .int, 2) := by decide +kernel
theorem dX7_init_59 : decode cX7_init 59 = .ok (.putfield 28, 3) := by decide +kernel
theorem dX7_init_62 : decode cX7_init 62 = .ok (.aload_n 0, 1) := by decide +kernel
theorem dX7_init_63 : decode cX7_init 63 = .ok (.bipush 16, 2) := by decide +kernel
theorem dX7_init_65 : decode cX7_init 65 = .ok (.newarray .int, 2) := by decide +kernel
theorem dX7_init_67 : decode cX7_init 67 = .ok (.putfield 31, 3) := by decide +kernel
theorem dX7_init_70 : decode cX7_init 70 = .ok (.aload_n 0, 1) := by decide +kernel
theorem dX7_init_71 : decode cX7_init 71 = .ok (.bipush 6, 2) := by decide +kernel
theorem dX7_init_73 : decode cX7_init 73 = .ok (.newarray .int, 2) := by decide +kernel
theorem dX7_init_75 : decode cX7_init 75 = .ok (.putfield 34, 3) := by decide +kernel
theorem dX7_init_78 : decode cX7_init 78 = .ok (.aload_n 0, 1) := by decide +kernel
theorem dX7_init_79 : decode cX7_init 79 = .ok (.bipush 6, 2) := by decide +kernel
theorem dX7_init_81 : decode cX7_init 81 = .ok (.newarray .int, 2) := by decide +kernel
theorem dX7_init_83 : decode cX7_init 83 = .ok (.putfield 37, 3) := by decide +kernel
theorem dX7_init_86 : decode cX7_init 86 = .ok (.aload_n 0, 1) := by decide +kernel
theorem dX7_init_87 : decode cX7_init 87 = .ok (.sipush 290, 3) := by decide +kernel
theorem dX7_init_90 : decode cX7_init 90 = .ok (.newarray .int, 2) := by decide +kernel
theorem dX7_init_92 : decode cX7_init 92 = .ok (.putfield 40, 3) := by decide +kernel
theorem dX7_init_95 : decode cX7_init 95 = .ok (.aload_n 0, 1) := by decide +kernel
theorem dX7_init_96 : decode cX7_init 96 = .ok (.invokevirtual 43, 3) := by decide +kernel
theorem dX7_init_99 : decode cX7_init 99 = .ok (.aload_n 0, 1) := by decide +kernel
theorem dX7_init_100 : decode cX7_init 100 = .ok (.invokevirtual 46, 3) := by decide +kernel
theorem dX7_init_103 : decode cX7_init 103 = .ok (.return_, 1) := by decide +kernel
theorem dX7_type_0 : decode cX7_type 0 = .ok (.iload_n 1, 1) := by decide +kernel
theorem dX7_type_1 : decode cX7_type 1 = .ok (.i2l, 1) := by decide +kernel
theorem dX7_type_2 : decode cX7_type 2 = .ok (.lconst 0, 1) := by decide +kernel
theorem dX7_type_3 : decode cX7_type 3 = .ok (.ldc2_w 49, 3) := by decide +kernel
theorem dX7_type_6 : decode cX7_type 6 = .ok (.invokestatic 51, 3) := by decide +kernel
theorem dX7_type_9 : decode cX7_type 9 = .ok (.ifCond .ne 5, 3) := by decide +kernel
theorem dX7_type_12 : decode cX7_type 12 = .ok (.iconst (-1), 1) := by decide +kernel
theorem dX7_type_13 : decode cX7_type 13 = .ok (.ireturn, 1) := by decide +kernel
theorem dX7_type_14 : decode cX7_type 14 = .ok (.aload_n 0, 1) := by decide +kernel
theorem dX7_type_15 : decode cX7_type 15 = .ok (.getfield 55, 3) := by decide +kernel
theorem dX7_type_18 : decode cX7_type 18 = .ok (.sipush 200, 3) := by decide +kernel
theorem dX7_type_21 : decode cX7_type 21 = .ok (.if_icmp .ne 6, 3) := by decide +kernel
theorem dX7_type_24 : decode cX7_type 24 = .ok (.bipush (-3), 2) := by decide +kernel
theorem dX7_type_26 : decode cX7_type 26 = .ok (.ireturn, 1) := by decide +kernel
theorem dX7_type_27 : decode cX7_type 27 = .ok (.aload_n 0, 1) := by decide +kernel
theorem dX7_type_28 : decode cX7_type 28 = .ok (.getfield 7, 3) := by decide +kernel
theorem dX7_type_31 : decode cX7_type 31 = .ok (.aload_n 0, 1) := by decide +kernel
theorem dX7_type_32 : decode cX7_type 32 = .ok (.getfield 55, 3) := by decide +kernel
theorem dX7_type_35 : decode cX7_type 35 = .ok (.iload_n 1, 1) := by decide +kernel
theorem dX7_type_36 : decode cX7_type 36 = .ok (.iastore, 1) := by decide +kernel
theorem dX7_type_37 : decode cX7_type 37 = .ok (.aload_n 0, 1) := by decide +kernel
theorem dX7_type_38 : decode cX7_type 38 = .ok (.dup, 1) := by decide +kernel
theorem dX7_type_39 : decode cX7_type 39 = .ok (.getfield 55, 3) := by decide +kernel
theorem dX7_type_42 : decode cX7_type 42 = .ok (.iconst 1, 1) := by decide +kernel
theorem dX7_type_43 : decode cX7_type 43 = .ok (.iadd, 1) := by decide +kernel
theorem dX7_type_44 : decode cX7_type 44 = .ok (.putfield 55, 3) := by decide +kernel
theorem dX7_type_47 : decode cX7_type 47 = .ok (.aload_n 0, 1) := by decide +kernel
theorem dX7_type_48 : decode cX7_type 48 = .ok (.getfield 55, 3) := by decide +kernel
theorem dX7_type_51 : decode cX7_type 51 = .ok (.ireturn, 1) := by decide +kernel
theorem dX7_clear_0 : decode cX7_clear 0 = .ok (.aload_n 0, 1) := by decide +kernel
theorem dX7_clear_1 : decode cX7_clear 1 = .ok (.getfield 55, 3) := by decide +kernel
theorem dX7_clear_4 : decode cX7_clear 4 = .ok (.istore_n 1, 1) := by decide +kernel
theorem dX7_clear_5 : decode cX7_clear 5 = .ok (.aload_n 0, 1) := by decide +kernel
theorem dX7_clear_6 : decode cX7_clear 6 = .ok (.iconst 0, 1) := by decide +kernel
theorem dX7_clear_7 : decode cX7_clear 7 = .ok (.putfield 55, 3) := by decide +kernel
theorem dX7_clear_10 : decode cX7_clear 10 = .ok (.iload_n 1, 1) := by decide +kernel
theorem dX7_clear_11 : decode cX7_clear 11 = .ok (.ireturn, 1) := by decide +kernel
theorem dX7_isLetter_0 : decode cX7_isLetter 0 = .ok (.iload_n 0, 1) := by decide +kernel
theorem dX7_isLetter_1 : decode cX7_isLetter 1 = .ok (.i2l, 1) := by decide +kernel
theorem dX7_isLetter_2 : decode cX7_isLetter 2 = .ok (.ldc2_w 59, 3) := by decide +kernel
theorem dX7_isLetter_5 : decode cX7_isLetter 5 = .ok (.ldc2_w 61, 3) := by decide +kernel
theorem dX7_isLetter_8 : decode cX7_isLetter 8 = .ok (.invokestatic 51, 3) := by decide +kernel
theorem dX7_isLetter_11 : decode cX7_isLetter 11 = .ok (.ireturn, 1) := by decide +kernel
theorem dX7_isFigure_0 : decode cX7_isFigure 0 = .ok (.iload_n 0, 1) := by decide +kernel
theorem dX7_isFigure_1 : decode cX7_isFigure 1 = .ok (.i2l, 1) := by decide +kernel
theorem dX7_isFigure_2 : decode cX7_isFigure 2 = .ok (.ldc2_w 63, 3) := by decide +kernel
theorem dX7_isFigure_5 : decode cX7_isFigure 5 = .ok (.ldc2_w 65, 3) := by decide +kernel
theorem dX7_isFigure_8 : decode cX7_isFigure 8 = .ok (.invokestatic 51, 3) := by decide +kernel
theorem dX7_isFigure_11 : decode cX7_isFigure 11 = .ok (.ireturn, 1) := by decide +kernel
theorem dX7_readLetters_0 : decode cX7_readLetters 0 = .ok (.aload_n 0, 1) := by decide +kernel
theorem dX7_readLetters_1 : decode cX7_readLetters 1 = .ok (.aload_n 0, 1) := by decide +kernel
theorem dX7_readLetters_2 : decode cX7_readLetters 2 = .ok (.getfield 7, 3) := by decide +kernel
theorem dX7_readLetters_5 : decode cX7_readLetters 5 = .ok (.aload_n 0, 1) := by decide +kernel
theorem dX7_readLetters_6 : decode cX7_readLetters 6 = .ok (.getfield 67, 3) := by decide +kernel
theorem dX7_readLetters_9 : decode cX7_readLetters 9 = .ok (.iaload, 1) := by decide +kernel
theorem dX7_readLetters_10 : decode cX7_readLetters 10 = .ok (.putfield 70, 3) := by decide +kernel
theorem dX7_readLetters_13 : decode cX7_readLetters 13 = .ok (.aload_n 0, 1) := by decide +kernel
theorem dX7_readLetters_14 : decode cX7_readLetters 14 = .ok (.getfield 67, 3) := by decide +kernel
theorem dX7_readLetters_17 : decode cX7_readLetters 17 = .ok (.aload_n 0, 1) := by decide +kernel
theorem dX7_readLetters_18 : decode cX7_readLetters 18 = .ok (.getfield 55, 3) := by decide +kernel
theorem dX7_readLetters_21 : decode cX7_readLetters 21 = .ok (.if_icmp .ge 31, 3) := by decide +kernel
theorem dX7_readLetters_24 : decode cX7_readLetters 24 = .ok (.aload_n 0, 1) := by decide +kernel
theorem dX7_readLetters_25 : decode cX7_readLetters 25 = .ok (.getfield 7, 3) := by decide +kernel
theorem dX7_readLetters_28 : decode cX7_readLetters 28 = .ok (.aload_n 0, 1) := by decide +kernel
theorem dX7_readLetters_29 : decode cX7_readLetters 29 = .ok (.getfield 67, 3) := by decide +kernel
theorem dX7_readLetters_32 : decode cX7_readLetters 32 = .ok (.iaload, 1) := by decide +kernel
theorem dX7_readLetters_33 : decode cX7_readLetters 33 = .ok (.invokestatic 73, 3) := by decide +kernel
theorem dX7_readLetters_36 : decode cX7_readLetters 36 = .ok (.ifCond .eq 16, 3) := by decide +kernel
theorem dX7_readLetters_39 : decode cX7_readLetters 39 = .ok (.aload_n 0, 1) := by decide +kernel
theorem dX7_readLetters_40 : decode cX7_readLetters 40 = .ok (.dup, 1) := by decide +kernel
theorem dX7_readLetters_41 : decode cX7_readLetters 41 = .ok (.getfield 67, 3) := by decide +kernel
theorem dX7_readLetters_44 : decode cX7_readLetters 44 = .ok (.iconst 1, 1) := by decide +kernel
theorem dX7_readLetters_45 : decode cX7_readLetters 45 = .ok (.iadd, 1) := by decide +kernel
theorem dX7_readLetters_46 : decode cX7_readLetters 46 = .ok (.putfield 67, 3) := by decide +kernel
theorem dX7_readLetters_49 : decode cX7_readLetters 49 = .ok (.goto (-36), 3) := by decide +kernel
theorem dX7_readLetters_52 : decode cX7_readLetters 52 = .ok (.aload_n 0, 1) := by decide +kernel
theorem dX7_readLetters_53 : decode cX7_readLetters 53 = .ok (.getfield 70, 3) := by decide +kernel
theorem dX7_readLetters_56 : decode cX7_readLetters 56 = .ok (.bipush 121, 2) := by decide +kernel
theorem dX7_readLetters_58 : decode cX7_readLetters 58 = .ok (.if_icmp .eq 48, 3) := by decide +kernel
theorem dX7_readLetters_61 : decode cX7_readLetters 61 = .ok (.aload_n 0, 1) := by decide +kernel
theorem dX7_readLetters_62 : decode cX7_readLetters 62 = .ok (.getfield 70, 3) := by decide +kernel
theorem dX7_readLetters_65 : decode cX7_readLetters 65 = .ok (.bipush 115, 2) := by decide +kernel
theorem dX7_readLetters_67 : decode cX7_readLetters 67 = .ok (.if_icmp .eq 39, 3) := by decide +kernel
theorem dX7_readLetters_70 : decode cX7_readLetters 70 = .ok (.aload_n 0, 1) := by decide +kernel
theorem dX7_readLetters_71 : decode cX7_readLetters 71 = .ok (.getfield 70, 3) := by decide +kernel
theorem dX7_readLetters_74 : decode cX7_readLetters 74 = .ok (.bipush 98, 2) := by decide +kernel
theorem dX7_readLetters_76 : decode cX7_readLetters 76 = .ok (.if_icmp .eq 30, 3) := by decide +kernel
theorem dX7_readLetters_79 : decode cX7_readLetters 79 = .ok (.aload_n 0, 1) := by decide +kernel
theorem dX7_readLetters_80 : decode cX7_readLetters 80 = .ok (.getfield 70, 3) := by decide +kernel
theorem dX7_readLetters_83 : decode cX7_readLetters 83 = .ok (.bipush 116, 2) := by decide +kernel
theorem dX7_readLetters_85 : decode cX7_readLetters 85 = .ok (.if_icmp .eq 21, 3) := by decide +kernel
theorem dX7_readLetters_88 : decode cX7_readLetters 88 = .ok (.aload_n 0, 1) := by decide +kernel
theorem dX7_readLetters_89 : decode cX7_readLetters 89 = .ok (.getfield 70, 3) := by decide +kernel
theorem dX7_readLetters_92 : decode cX7_readLetters 92 = .ok (.bipush 113, 2) := by decide +kernel
theorem dX7_readLetters_94 : decode cX7_readLetters 94 = .ok (.if_icmp .eq 12, 3) := by decide +kernel
theorem dX7_readLetters_97 : decode cX7_readLetters 97 = .ok (.aload_n 0, 1) := by decide +kernel
theorem dX7_readLetters_98 : decode cX7_readLetters 98 = .ok (.getfield 70, 3) := by decide +kernel
theorem dX7_readLetters_101 : decode cX7_readLetters 101 = .ok (.bipush 100, 2) := by decide +kernel
theorem dX7_readLetters_103 : decode cX7_readLetters 103 = .ok (.if_icmp .ne 7, 3) := by decide +kernel
theorem dX7_readLetters_106 : decode cX7_readLetters 106 = .ok (.iconst 1, 1) := by decide +kernel
theorem dX7_readLetters_107 : decode cX7_readLetters 107 = .ok (.goto 4, 3) := by decide +kernel
theorem dX7_readLetters_110 : decode cX7_readLetters 110 = .ok (.iconst 0, 1) := by decide +kernel
theorem dX7_readLetters_111 : decode cX7_readLetters 111 = .ok (.istore_n 1, 1) := by decide +kernel
theorem dX7_readLetters_112 : decode cX7_readLetters 112 = .ok (.aload_n 0, 1) := by decide +kernel
theorem dX7_readLetters_113 : decode cX7_readLetters 113 = .ok (.iload_n 1, 1) := by decide +kernel
theorem dX7_readLetters_114 : decode cX7_readLetters 114 = .ok (.ifCond .eq 20, 3) := by decide +kernel
theorem dX7_readLetters_117 : decode cX7_readLetters 117 = .ok (.aload_n 0, 1) := by decide +kernel
theorem dX7_readLetters_118 : decode cX7_readLetters 118 = .ok (.getfield 67, 3) := by decide +kernel
theorem dX7_readLetters_121 : decode cX7_readLetters 121 = .ok (.aload_n 0, 1) := by decide +kernel
theorem dX7_readLetters_122 : decode cX7_readLetters 122 = .ok (.getfield 77, 3) := by decide +kernel
theorem dX7_readLetters_125 : decode cX7_readLetters 125 = .ok (.isub, 1) := by decide +kernel
theorem dX7_readLetters_126 : decode cX7_readLetters 126 = .ok (.iconst 1, 1) := by decide +kernel
theorem dX7_readLetters_127 : decode cX7_readLetters 127 = .ok (.if_icmp .ne 7, 3) := by decide +kernel
theorem dX7_readLetters_130 : decode cX7_readLetters 130 = .ok (.iconst 1, 1) := by decide +kernel
theorem dX7_readLetters_131 : decode cX7_readLetters 131 = .ok (.goto 4, 3) := by decide +kernel
theorem dX7_readLetters_134 : decode cX7_readLetters 134 = .ok (.iconst 4, 1) := by decide +kernel
theorem dX7_readLetters_135 : decode cX7_readLetters 135 = .ok (.putfield 80, 3) := by decide +kernel
theorem dX7_readLetters_138 : decode cX7_readLetters 138 = .ok (.return_, 1) := by decide +kernel
theorem dX7_readNumber_0 : decode cX7_readNumber 0 = .ok (.iconst 0, 1) := by decide +kernel
theorem dX7_readNumber_1 : decode cX7_readNumber 1 = .ok (.istore_n 1, 1) := by decide +kernel
theorem dX7_readNumber_2 : decode cX7_readNumber 2 = .ok (.aload_n 0, 1) := by decide +kernel
theorem dX7_readNumber_3 : decode cX7_readNumber 3 = .ok (.getfield 67, 3) := by decide +kernel
theorem dX7_readNumber_6 : decode cX7_readNumber 6 = .ok (.aload_n 0, 1) := by decide +kernel
theorem dX7_readNumber_7 : decode cX7_readNumber 7 = .ok (.getfield 55, 3) := by decide +kernel
theorem dX7_readNumber_10 : decode cX7_readNumber 10 = .ok (.if_icmp .ge 59, 3) := by decide +kernel
theorem dX7_readNumber_13 : decode cX7_readNumber 13 = .ok (.aload_n 0, 1) := by decide +kernel
theorem dX7_readNumber_14 : decode cX7_readNumber 14 = .ok (.getfield 7, 3) := by decide +kernel
theorem dX7_readNumber_17 : decode cX7_readNumber 17 = .ok (.aload_n 0, 1) := by decide +kernel
theorem dX7_readNumber_18 : decode cX7_readNumber 18 = .ok (.getfield 67, 3) := by decide +kernel
theorem dX7_readNumber_21 : decode cX7_readNumber 21 = .ok (.iaload, 1) := by decide +kernel
theorem dX7_readNumber_22 : decode cX7_readNumber 22 = .ok (.invokestatic 83, 3) := by decide +kernel
theorem dX7_readNumber_25 : decode cX7_readNumber 25 = .ok (.ifCond .eq 44, 3) := by decide +kernel
theorem dX7_readNumber_28 : decode cX7_readNumber 28 = .ok (.iload_n 1, 1) := by decide +kernel
theorem dX7_readNumber_29 : decode cX7_readNumber 29 = .ok (.bipush 99, 2) := by decide +kernel
theorem dX7_readNumber_31 : decode cX7_readNumber 31 = .ok (.if_icmp .le 7, 3) := by decide +kernel
theorem dX7_readNumber_34 : decode cX7_readNumber 34 = .ok (.iload_n 1, 1) := by decide +kernel
theorem dX7_readNumber_35 : decode cX7_readNumber 35 = .ok (.goto 20, 3) := by decide +kernel
theorem dX7_readNumber_38 : decode cX7_readNumber 38 = .ok (.bipush 10, 2) := by decide +kernel
theorem dX7_readNumber_40 : decode cX7_readNumber 40 = .ok (.iload_n 1, 1) := by decide +kernel
theorem dX7_readNumber_41 : decode cX7_readNumber 41 = .ok (.imul, 1) := by decide +kernel
theorem dX7_readNumber_42 : decode cX7_readNumber 42 = .ok (.aload_n 0, 1) := by decide +kernel
theorem dX7_readNumber_43 : decode cX7_readNumber 43 = .ok (.getfield 7, 3) := by decide +kernel
theorem dX7_readNumber_46 : decode cX7_readNumber 46 = .ok (.aload_n 0, 1) := by decide +kernel
theorem dX7_readNumber_47 : decode cX7_readNumber 47 = .ok (.getfield 67, 3) := by decide +kernel
theorem dX7_readNumber_50 : decode cX7_readNumber 50 = .ok (.iaload, 1) := by decide +kernel
theorem dX7_readNumber_51 : decode cX7_readNumber 51 = .ok (.iadd, 1) := by decide +kernel
theorem dX7_readNumber_52 : decode cX7_readNumber 52 = .ok (.bipush 48, 2) := by decide +kernel
theorem dX7_readNumber_54 : decode cX7_readNumber 54 = .ok (.isub, 1) := by decide +kernel
theorem dX7_readNumber_55 : decode cX7_readNumber 55 = .ok (.istore_n 1, 1) := by decide +kernel
theorem dX7_readNumber_56 : decode cX7_readNumber 56 = .ok (.aload_n 0, 1) := by decide +kernel
theorem dX7_readNumber_57 : decode cX7_readNumber 57 = .ok (.dup, 1) := by decide +kernel
theorem dX7_readNumber_58 : decode cX7_readNumber 58 = .ok (.getfield 67, 3) := by decide +kernel
theorem dX7_readNumber_61 : decode cX7_readNumber 61 = .ok (.iconst 1, 1) := by decide +kernel
theorem dX7_readNumber_62 : decode cX7_readNumber 62 = .ok (.iadd, 1) := by decide +kernel
theorem dX7_readNumber_63 : decode cX7_readNumber 63 = .ok (.putfield 67, 3) := by decide +kernel
theorem dX7_readNumber_66 : decode cX7_readNumber 66 = .ok (.goto (-64), 3) := by decide +kernel
theorem dX7_readNumber_69 : decode cX7_readNumber 69 = .ok (.aload_n 0, 1) := by decide +kernel
theorem dX7_readNumber_70 : decode cX7_readNumber 70 = .ok (.iload_n 1, 1) := by decide +kernel
theorem dX7_readNumber_71 : decode cX7_readNumber 71 = .ok (.bipush 99, 2) := by decide +kernel
theorem dX7_readNumber_73 : decode cX7_readNumber 73 = .ok (.if_icmp .gt 30, 3) := by decide +kernel
theorem dX7_readNumber_76 : decode cX7_readNumber 76 = .ok (.aload_n 0, 1) := by decide +kernel
theorem dX7_readNumber_77 : decode cX7_readNumber 77 = .ok (.getfield 67, 3) := by decide +kernel
theorem dX7_readNumber_80 : decode cX7_readNumber 80 = .ok (.aload_n 0, 1) := by decide +kernel
theorem dX7_readNumber_81 : decode cX7_readNumber 81 = .ok (.getfield 77, 3) := by decide +kernel
theorem dX7_readNumber_84 : decode cX7_readNumber 84 = .ok (.isub, 1) := by decide +kernel
theorem dX7_readNumber_85 : decode cX7_readNumber 85 = .ok (.iconst 1, 1) := by decide +kernel
theorem dX7_readNumber_86 : decode cX7_readNumber 86 = .ok (.if_icmp .le 21, 3) := by decide +kernel
theorem dX7_readNumber_89 : decode cX7_readNumber 89 = .ok (.aload_n 0, 1) := by decide +kernel
theorem dX7_readNumber_90 : decode cX7_readNumber 90 = .ok (.getfield 7, 3) := by decide +kernel
theorem dX7_readNumber_93 : decode cX7_readNumber 93 = .ok (.aload_n 0, 1) := by decide +kernel
theorem dX7_readNumber_94 : decode cX7_readNumber 94 = .ok (.getfield 77, 3) := by decide +kernel
theorem dX7_readNumber_97 : decode cX7_readNumber 97 = .ok (.iaload, 1) := by decide +kernel
theorem dX7_readNumber_98 : decode cX7_readNumber 98 = .ok (.bipush 48, 2) := by decide +kernel
theorem dX7_readNumber_100 : decode cX7_readNumber 100 = .ok (.if_icmp .ne 7, 3) := by decide +kernel
theorem dX7_readNumber_103 : decode cX7_readNumber 103 = .ok (.iconst 4, 1) := by decide +kernel
theorem dX7_readNumber_104 : decode cX7_readNumber 104 = .ok (.goto 4, 3) := by decide +kernel
theorem dX7_readNumber_107 : decode cX7_readNumber 107 = .ok (.iconst 2, 1) := by decide +kernel
theorem dX7_readNumber_108 : decode cX7_readNumber 108 = .ok (.putfield 80, 3) := by decide +kernel
theorem dX7_readNumber_111 : decode cX7_readNumber 111 = .ok (.aload_n 0, 1) := by decide +kernel
theorem dX7_readNumber_112 : decode cX7_readNumber 112 = .ok (.iload_n 1, 1) := by decide +kernel
theorem dX7_readNumber_113 : decode cX7_readNumber 113 = .ok (.putfield 70, 3) := by decide +kernel
theorem dX7_readNumber_116 : decode cX7_readNumber 116 = .ok (.return_, 1) := by decide +kernel
theorem dX7_reads_0 : decode cX7_reads 0 = .ok (.aload_n 0, 1) := by decide +kernel
theorem dX7_reads_1 : decode cX7_reads 1 = .ok (.getfield 67, 3) := by decide +kernel
theorem dX7_reads_4 : decode cX7_reads 4 = .ok (.aload_n 0, 1) := by decide +kernel
theorem dX7_reads_5 : decode cX7_reads 5 = .ok (.getfield 55, 3) := by decide +kernel
theorem dX7_reads_8 : decode cX7_reads 8 = .ok (.if_icmp .ge 30, 3) := by decide +kernel
theorem dX7_reads_11 : decode cX7_reads 11 = .ok (.aload_n 0, 1) := by decide +kernel
theorem dX7_reads_12 : decode cX7_reads 12 = .ok (.getfield 7, 3) := by decide +kernel
theorem dX7_reads_15 : decode cX7_reads 15 = .ok (.aload_n 0, 1) := by decide +kernel
theorem dX7_reads_16 : decode cX7_reads 16 = .ok (.getfield 67, 3) := by decide +kernel
theorem dX7_reads_19 : decode cX7_reads 19 = .ok (.iaload, 1) := by decide +kernel
theorem dX7_reads_20 : decode cX7_reads 20 = .ok (.bipush 32, 2) := by decide +kernel
theorem dX7_reads_22 : decode cX7_reads 22 = .ok (.if_icmp .ne 16, 3) := by decide +kernel
theorem dX7_reads_25 : decode cX7_reads 25 = .ok (.aload_n 0, 1) := by decide +kernel
theorem dX7_reads_26 : decode cX7_reads 26 = .ok (.dup, 1) := by decide +kernel
theorem dX7_reads_27 : decode cX7_reads 27 = .ok (.getfield 67, 3) := by decide +kernel
theorem dX7_reads_30 : decode cX7_reads 30 = .ok (.iconst 1, 1) := by decide +kernel
theorem dX7_reads_31 : decode cX7_reads 31 = .ok (.iadd, 1) := by decide +kernel
theorem dX7_reads_32 : decode cX7_reads 32 = .ok (.putfield 67, 3) := by decide +kernel
theorem dX7_reads_35 : decode cX7_reads 35 = .ok (.goto (-35), 3) := by decide +kernel
theorem dX7_reads_38 : decode cX7_reads 38 = .ok (.aload_n 0, 1) := by decide +kernel
theorem dX7_reads_39 : decode cX7_reads 39 = .ok (.aload_n 0, 1) := by decide +kernel
theorem dX7_reads_40 : decode cX7_reads 40 = .ok (.getfield 67, 3) := by decide +kernel
theorem dX7_reads_43 : decode cX7_reads 43 = .ok (.putfield 77, 3) := by decide +kernel
theorem dX7_reads_46 : decode cX7_reads 46 = .ok (.aload_n 0, 1) := by decide +kernel
theorem dX7_reads_47 : decode cX7_reads 47 = .ok (.getfield 67, 3) := by decide +kernel
theorem dX7_reads_50 : decode cX7_reads 50 = .ok (.aload_n 0, 1) := by decide +kernel
theorem dX7_reads_51 : decode cX7_reads 51 = .ok (.getfield 55, 3) := by decide +kernel
theorem dX7_reads_54 : decode cX7_reads 54 = .ok (.if_icmp .ne 11, 3) := by decide +kernel
theorem dX7_reads_57 : decode cX7_reads 57 = .ok (.aload_n 0, 1) := by decide +kernel
theorem dX7_reads_58 : decode cX7_reads 58 = .ok (.iconst 0, 1) := by decide +kernel
theorem dX7_reads_59 : decode cX7_reads 59 = .ok (.putfield 80, 3) := by decide +kernel
theorem dX7_reads_62 : decode cX7_reads 62 = .ok (.goto 92, 3) := by decide +kernel
theorem dX7_reads_65 : decode cX7_reads 65 = .ok (.aload_n 0, 1) := by decide +kernel
theorem dX7_reads_66 : decode cX7_reads 66 = .ok (.getfield 7, 3) := by decide +kernel
theorem dX7_reads_69 : decode cX7_reads 69 = .ok (.aload_n 0, 1) := by decide +kernel
theorem dX7_reads_70 : decode cX7_reads 70 = .ok (.getfield 67, 3) := by decide +kernel
theorem dX7_reads_73 : decode cX7_reads 73 = .ok (.iaload, 1) := by decide +kernel
theorem dX7_reads_74 : decode cX7_reads 74 = .ok (.invokestatic 73, 3) := by decide +kernel
theorem dX7_reads_77 : decode cX7_reads 77 = .ok (.ifCond .eq 10, 3) := by decide +kernel
theorem dX7_reads_80 : decode cX7_reads 80 = .ok (.aload_n 0, 1) := by decide +kernel
theorem dX7_reads_81 : decode cX7_reads 81 = .ok (.invokevirtual 86, 3) := by decide +kernel
theorem dX7_reads_84 : decode cX7_reads 84 = .ok (.goto 70, 3) := by decide +kernel
theorem dX7_reads_87 : decode cX7_reads 87 = .ok (.aload_n 0, 1) := by decide +kernel
theorem dX7_reads_88 : decode cX7_reads 88 = .ok (.getfield 7, 3) := by decide +kernel
theorem dX7_reads_91 : decode cX7_reads 91 = .ok (.aload_n 0, 1) := by decide +kernel
theorem dX7_reads_92 : decode cX7_reads 92 = .ok (.getfield 67, 3) := by decide +kernel
theorem dX7_reads_95 : decode cX7_reads 95 = .ok (.iaload, 1) := by decide +kernel
theorem dX7_reads_96 : decode cX7_reads 96 = .ok (.invokestatic 83, 3) := by decide +kernel
theorem dX7_reads_99 : decode cX7_reads 99 = .ok (.ifCond .eq 10, 3) := by decide +kernel
theorem dX7_reads_102 : decode cX7_reads 102 = .ok (.aload_n 0, 1) := by decide +kernel
theorem dX7_reads_103 : decode cX7_reads 103 = .ok (.invokevirtual 89, 3) := by decide +kernel
theorem dX7_reads_106 : decode cX7_reads 106 = .ok (.goto 48, 3) := by decide +kernel
theorem dX7_reads_109 : decode cX7_reads 109 = .ok (.aload_n 0, 1) := by decide +kernel
theorem dX7_reads_110 : decode cX7_reads 110 = .ok (.aload_n 0, 1) := by decide +kernel
theorem dX7_reads_111 : decode cX7_reads 111 = .ok (.getfield 7, 3) := by decide +kernel
theorem dX7_reads_114 : decode cX7_reads 114 = .ok (.aload_n 0, 1) := by decide +kernel
theorem dX7_reads_115 : decode cX7_reads 115 = .ok (.getfield 67, 3) := by decide +kernel
theorem dX7_reads_118 : decode cX7_reads 118 = .ok (.iaload, 1) := by decide +kernel
theorem dX7_reads_119 : decode cX7_reads 119 = .ok (.bipush 59, 2) := by decide +kernel
theorem dX7_reads_121 : decode cX7_reads 121 = .ok (.if_icmp .ne 7, 3) := by decide +kernel
theorem dX7_reads_124 : decode cX7_reads 124 = .ok (.iconst 3, 1) := by decide +kernel
theorem dX7_reads_125 : decode cX7_reads 125 = .ok (.goto 4, 3) := by decide +kernel
theorem dX7_reads_128 : decode cX7_reads 128 = .ok (.iconst 4, 1) := by decide +kernel
theorem dX7_reads_129 : decode cX7_reads 129 = .ok (.putfield 80, 3) := by decide +kernel
theorem dX7_reads_132 : decode cX7_reads 132 = .ok (.aload_n 0, 1) := by decide +kernel
theorem dX7_reads_133 : decode cX7_reads 133 = .ok (.dup, 1) := by decide +kernel
theorem dX7_reads_134 : decode cX7_reads 134 = .ok (.getfield 67, 3) := by decide +kernel
theorem dX7_reads_137 : decode cX7_reads 137 = .ok (.aload_n 0, 1) := by decide +kernel
theorem dX7_reads_138 : decode cX7_reads 138 = .ok (.getfield 80, 3) := by decide +kernel
theorem dX7_reads_141 : decode cX7_reads 141 = .ok (.iconst 3, 1) := by decide +kernel
theorem dX7_reads_142 : decode cX7_reads 142 = .ok (.if_icmp .ne 7, 3) := by decide +kernel
theorem dX7_reads_145 : decode cX7_reads 145 = .ok (.iconst 1, 1) := by decide +kernel
theorem dX7_reads_146 : decode cX7_reads 146 = .ok (.goto 4, 3) := by decide +kernel
theorem dX7_reads_149 : decode cX7_reads 149 = .ok (.iconst 0, 1) := by decide +kernel
theorem dX7_reads_150 : decode cX7_reads 150 = .ok (.iadd, 1) := by decide +kernel
theorem dX7_reads_151 : decode cX7_reads 151 = .ok (.putfield 67, 3) := by decide +kernel
theorem dX7_reads_154 : decode cX7_reads 154 = .ok (.return_, 1) := by decide +kernel
theorem dX7_number_0 : decode cX7_number 0 = .ok (.aload_n 0, 1) := by decide +kernel
theorem dX7_number_1 : decode cX7_number 1 = .ok (.invokevirtual 92, 3) := by decide +kernel
theorem dX7_number_4 : decode cX7_number 4 = .ok (.aload_n 0, 1) := by decide +kernel
theorem dX7_number_5 : decode cX7_number 5 = .ok (.getfield 80, 3) := by decide +kernel
theorem dX7_number_8 : decode cX7_number 8 = .ok (.iconst 2, 1) := by decide +kernel
theorem dX7_number_9 : decode cX7_number 9 = .ok (.if_icmp .ne 22, 3) := by decide +kernel
theorem dX7_number_12 : decode cX7_number 12 = .ok (.aload_n 0, 1) := by decide +kernel
theorem dX7_number_13 : decode cX7_number 13 = .ok (.getfield 70, 3) := by decide +kernel
theorem dX7_number_16 : decode cX7_number 16 = .ok (.i2l, 1) := by decide +kernel
theorem dX7_number_17 : decode cX7_number 17 = .ok (.iload_n 1, 1) := by decide +kernel
theorem dX7_number_18 : decode cX7_number 18 = .ok (.i2l, 1) := by decide +kernel
theorem dX7_number_19 : decode cX7_number 19 = .ok (.iload_n 2, 1) := by decide +kernel
theorem dX7_number_20 : decode cX7_number 20 = .ok (.i2l, 1) := by decide +kernel
theorem dX7_number_21 : decode cX7_number 21 = .ok (.invokestatic 51, 3) := by decide +kernel
theorem dX7_number_24 : decode cX7_number 24 = .ok (.ifCond .eq 7, 3) := by decide +kernel
theorem dX7_number_27 : decode cX7_number 27 = .ok (.iconst 1, 1) := by decide +kernel
theorem dX7_number_28 : decode cX7_number 28 = .ok (.goto 4, 3) := by decide +kernel
theorem dX7_number_31 : decode cX7_number 31 = .ok (.iconst 0, 1) := by decide +kernel
theorem dX7_number_32 : decode cX7_number 32 = .ok (.ireturn, 1) := by decide +kernel
theorem dX7_ends_0 : decode cX7_ends 0 = .ok (.aload_n 0, 1) := by decide +kernel
theorem dX7_ends_1 : decode cX7_ends 1 = .ok (.invokevirtual 92, 3) := by decide +kernel
theorem dX7_ends_4 : decode cX7_ends 4 = .ok (.aload_n 0, 1) := by decide +kernel
theorem dX7_ends_5 : decode cX7_ends 5 = .ok (.getfield 80, 3) := by decide +kernel
theorem dX7_ends_8 : decode cX7_ends 8 = .ok (.iconst 3, 1) := by decide +kernel
theorem dX7_ends_9 : decode cX7_ends 9 = .ok (.if_icmp .ne 7, 3) := by decide +kernel
theorem dX7_ends_12 : decode cX7_ends 12 = .ok (.iconst 1, 1) := by decide +kernel
theorem dX7_ends_13 : decode cX7_ends 13 = .ok (.goto 4, 3) := by decide +kernel
theorem dX7_ends_16 : decode cX7_ends 16 = .ok (.iconst 0, 1) := by decide +kernel
theorem dX7_ends_17 : decode cX7_ends 17 = .ok (.ireturn, 1) := by decide +kernel
theorem dX7_plain_0 : decode cX7_plain 0 = .ok (.iconst 0, 1) := by decide +kernel
theorem dX7_plain_1 : decode cX7_plain 1 = .ok (.istore_n 1, 1) := by decide +kernel
theorem dX7_plain_2 : decode cX7_plain 2 = .ok (.iload_n 1, 1) := by decide +kernel
theorem dX7_plain_3 : decode cX7_plain 3 = .ok (.bipush 55, 2) := by decide +kernel
theorem dX7_plain_5 : decode cX7_plain 5 = .ok (.if_icmp .ge 16, 3) := by decide +kernel
theorem dX7_plain_8 : decode cX7_plain 8 = .ok (.aload_n 0, 1) := by decide +kernel
theorem dX7_plain_9 : decode cX7_plain 9 = .ok (.getfield 13, 3) := by decide +kernel
theorem dX7_plain_12 : decode cX7_plain 12 = .ok (.iload_n 1, 1) := by decide +kernel
theorem dX7_plain_13 : decode cX7_plain 13 = .ok (.iconst 0, 1) := by decide +kernel
theorem dX7_plain_14 : decode cX7_plain 14 = .ok (.iastore, 1) := by decide +kernel
theorem dX7_plain_15 : decode cX7_plain 15 = .ok (.iinc 1 1, 3) := by decide +kernel
theorem dX7_plain_18 : decode cX7_plain 18 = .ok (.goto (-16), 3) := by decide +kernel
theorem dX7_plain_21 : decode cX7_plain 21 = .ok (.aload_n 0, 1) := by decide +kernel
theorem dX7_plain_22 : decode cX7_plain 22 = .ok (.getfield 13, 3) := by decide +kernel
theorem dX7_plain_25 : decode cX7_plain 25 = .ok (.iconst 0, 1) := by decide +kernel
theorem dX7_plain_26 : decode cX7_plain 26 = .ok (.bipush 12, 2) := by decide +kernel
theorem dX7_plain_28 : decode cX7_plain 28 = .ok (.iastore, 1) := by decide +kernel
theorem dX7_plain_29 : decode cX7_plain 29 = .ok (.aload_n 0, 1) := by decide +kernel
theorem dX7_plain_30 : decode cX7_plain 30 = .ok (.getfield 13, 3) := by decide +kernel
theorem dX7_plain_33 : decode cX7_plain 33 = .ok (.iconst 4, 1) := by decide +kernel
theorem dX7_plain_34 : decode cX7_plain 34 = .ok (.iconst 1, 1) := by decide +kernel
theorem dX7_plain_35 : decode cX7_plain 35 = .ok (.iastore, 1) := by decide +kernel
theorem dX7_plain_36 : decode cX7_plain 36 = .ok (.return_, 1) := by decide +kernel
theorem dX7_once_0 : decode cX7_once 0 = .ok (.aload_n 0, 1) := by decide +kernel
theorem dX7_once_1 : decode cX7_once 1 = .ok (.getfield 13, 3) := by decide +kernel
theorem dX7_once_4 : decode cX7_once 4 = .ok (.bipush 6, 2) := by decide +kernel
theorem dX7_once_6 : decode cX7_once 6 = .ok (.iaload, 1) := by decide +kernel
theorem dX7_once_7 : decode cX7_once 7 = .ok (.iload_n 1, 1) := by decide +kernel
theorem dX7_once_8 : decode cX7_once 8 = .ok (.iand, 1) := by decide +kernel
theorem dX7_once_9 : decode cX7_once 9 = .ok (.ifCond .ne 13, 3) := by decide +kernel
theorem dX7_once_12 : decode cX7_once 12 = .ok (.aload_n 0, 1) := by decide +kernel
theorem dX7_once_13 : decode cX7_once 13 = .ok (.iload_n 3, 1) := by decide +kernel
theorem dX7_once_14 : decode cX7_once 14 = .ok (.iload 4, 2) := by decide +kernel
theorem dX7_once_16 : decode cX7_once 16 = .ok (.invokevirtual 95, 3) := by decide +kernel
theorem dX7_once_19 : decode cX7_once 19 = .ok (.ifCond .ne 5, 3) := by decide +kernel
theorem dX7_once_22 : decode cX7_once 22 = .ok (.iconst 0, 1) := by decide +kernel
theorem dX7_once_23 : decode cX7_once 23 = .ok (.ireturn, 1) := by decide +kernel
theorem dX7_once_24 : decode cX7_once 24 = .ok (.aload_n 0, 1) := by decide +kernel
theorem dX7_once_25 : decode cX7_once 25 = .ok (.getfield 13, 3) := by decide +kernel
theorem dX7_once_28 : decode cX7_once 28 = .ok (.bipush 6, 2) := by decide +kernel
theorem dX7_once_30 : decode cX7_once 30 = .ok (.dup2, 1) := by decide +kernel
theorem dX7_once_31 : decode cX7_once 31 = .ok (.iaload, 1) := by decide +kernel
theorem dX7_once_32 : decode cX7_once 32 = .ok (.iload_n 1, 1) := by decide +kernel
theorem dX7_once_33 : decode cX7_once 33 = .ok (.ior, 1) := by decide +kernel
theorem dX7_once_34 : decode cX7_once 34 = .ok (.iastore, 1) := by decide +kernel
theorem dX7_once_35 : decode cX7_once 35 = .ok (.aload_n 0, 1) := by decide +kernel
theorem dX7_once_36 : decode cX7_once 36 = .ok (.getfield 13, 3) := by decide +kernel
theorem dX7_once_39 : decode cX7_once 39 = .ok (.iload_n 2, 1) := by decide +kernel
theorem dX7_once_40 : decode cX7_once 40 = .ok (.aload_n 0, 1) := by decide +kernel
theorem dX7_once_41 : decode cX7_once 41 = .ok (.getfield 70, 3) := by decide +kernel
theorem dX7_once_44 : decode cX7_once 44 = .ok (.iastore, 1) := by decide +kernel
theorem dX7_once_45 : decode cX7_once 45 = .ok (.aload_n 0, 1) := by decide +kernel
theorem dX7_once_46 : decode cX7_once 46 = .ok (.invokevirtual 99, 3) := by decide +kernel
theorem dX7_once_49 : decode cX7_once 49 = .ok (.ireturn, 1) := by decide +kernel
theorem dX7_readState_0 : decode cX7_readState 0 = .ok (.aload_n 0, 1) := by decide +kernel
theorem dX7_readState_1 : decode cX7_readState 1 = .ok (.getfield 13, 3) := by decide +kernel
theorem dX7_readState_4 : decode cX7_readState 4 = .ok (.iconst 1, 1) := by decide +kernel
theorem dX7_readState_5 : decode cX7_readState 5 = .ok (.iaload, 1) := by decide +kernel
theorem dX7_readState_6 : decode cX7_readState 6 = .ok (.bipush 6, 2) := by decide +kernel
theorem dX7_readState_8 : decode cX7_readState 8 = .ok (.if_icmp .ne 5, 3) := by decide +kernel
theorem dX7_readState_11 : decode cX7_readState 11 = .ok (.iconst 0, 1) := by decide +kernel
theorem dX7_readState_12 : decode cX7_readState 12 = .ok (.ireturn, 1) := by decide +kernel
theorem dX7_readState_13 : decode cX7_readState 13 = .ok (.bipush 8, 2) := by decide +kernel
theorem dX7_readState_15 : decode cX7_readState 15 = .ok (.iconst 5, 1) := by decide +kernel
theorem dX7_readState_16 : decode cX7_readState 16 = .ok (.aload_n 0, 1) := by decide +kernel
theorem dX7_readState_17 : decode cX7_readState 17 = .ok (.getfield 13, 3) := by decide +kernel
theorem dX7_readState_20 : decode cX7_readState 20 = .ok (.iconst 1, 1) := by decide +kernel
theorem dX7_readState_21 : decode cX7_readState 21 = .ok (.iaload, 1) := by decide +kernel
theorem dX7_readState_22 : decode cX7_readState 22 = .ok (.imul, 1) := by decide +kernel
theorem dX7_readState_23 : decode cX7_readState 23 = .ok (.iadd, 1) := by decide +kernel
theorem dX7_readState_24 : decode cX7_readState 24 = .ok (.istore_n 1, 1) := by decide +kernel
theorem dX7_readState_25 : decode cX7_readState 25 = .ok (.iconst 0, 1) := by decide +kernel
theorem dX7_readState_26 : decode cX7_readState 26 = .ok (.istore_n 2, 1) := by decide +kernel
theorem dX7_readState_27 : decode cX7_readState 27 = .ok (.iload_n 2, 1) := by decide +kernel
theorem dX7_readState_28 : decode cX7_readState 28 = .ok (.iconst 5, 1) := by decide +kernel
theorem dX7_readState_29 : decode cX7_readState 29 = .ok (.if_icmp .ge 50, 3) := by decide +kernel
theorem dX7_readState_32 : decode cX7_readState 32 = .ok (.aload_n 0, 1) := by decide +kernel
theorem dX7_readState_33 : decode cX7_readState 33 = .ok (.iconst 0, 1) := by decide +kernel
theorem dX7_readState_34 : decode cX7_readState 34 = .ok (.iload_n 2, 1) := by decide +kernel
theorem dX7_readState_35 : decode cX7_readState 35 = .ok (.ifCond .ne 8, 3) := by decide +kernel
theorem dX7_readState_38 : decode cX7_readState 38 = .ok (.bipush 18, 2) := by decide +kernel
theorem dX7_readState_40 : decode cX7_readState 40 = .ok (.goto 13, 3) := by decide +kernel
theorem dX7_readState_43 : decode cX7_readState 43 = .ok (.iload_n 2, 1) := by decide +kernel
theorem dX7_readState_44 : decode cX7_readState 44 = .ok (.iconst 1, 1) := by decide +kernel
theorem dX7_readState_45 : decode cX7_readState 45 = .ok (.if_icmp .ne 7, 3) := by decide +kernel
theorem dX7_readState_48 : decode cX7_readState 48 = .ok (.iconst 1, 1) := by decide +kernel
theorem dX7_readState_49 : decode cX7_readState 49 = .ok (.goto 4, 3) := by decide +kernel
theorem dX7_readState_52 : decode cX7_readState 52 = .ok (.iconst 5, 1) := by decide +kernel
theorem dX7_readState_53 : decode cX7_readState 53 = .ok (.invokevirtual 95, 3) := by decide +kernel
theorem dX7_readState_56 : decode cX7_readState 56 = .ok (.ifCond .ne 5, 3) := by decide +kernel
theorem dX7_readState_59 : decode cX7_readState 59 = .ok (.iconst 0, 1) := by decide +kernel
theorem dX7_readState_60 : decode cX7_readState 60 = .ok (.ireturn, 1) := by decide +kernel
theorem dX7_readState_61 : decode cX7_readState 61 = .ok (.aload_n 0, 1) := by decide +kernel
theorem dX7_readState_62 : decode cX7_readState 62 = .ok (.getfield 13, 3) := by decide +kernel
theorem dX7_readState_65 : decode cX7_readState 65 = .ok (.iload_n 1, 1) := by decide +kernel
theorem dX7_readState_66 : decode cX7_readState 66 = .ok (.iload_n 2, 1) := by decide +kernel
theorem dX7_readState_67 : decode cX7_readState 67 = .ok (.iadd, 1) := by decide +kernel
theorem dX7_readState_68 : decode cX7_readState 68 = .ok (.aload_n 0, 1) := by decide +kernel
theorem dX7_readState_69 : decode cX7_readState 69 = .ok (.getfield 70, 3) := by decide +kernel
theorem dX7_readState_72 : decode cX7_readState 72 = .ok (.iastore, 1) := by decide +kernel
theorem dX7_readState_73 : decode cX7_readState 73 = .ok (.iinc 2 1, 3) := by decide +kernel
theorem dX7_readState_76 : decode cX7_readState 76 = .ok (.goto (-49), 3) := by decide +kernel
theorem dX7_readState_79 : decode cX7_readState 79 = .ok (.aload_n 0, 1) := by decide +kernel
theorem dX7_readState_80 : decode cX7_readState 80 = .ok (.getfield 13, 3) := by decide +kernel
theorem dX7_readState_83 : decode cX7_readState 83 = .ok (.iconst 1, 1) := by decide +kernel
theorem dX7_readState_84 : decode cX7_readState 84 = .ok (.dup2, 1) := by decide +kernel
theorem dX7_readState_85 : decode cX7_readState 85 = .ok (.iaload, 1) := by decide +kernel
theorem dX7_readState_86 : decode cX7_readState 86 = .ok (.iconst 1, 1) := by decide +kernel
theorem dX7_readState_87 : decode cX7_readState 87 = .ok (.iadd, 1) := by decide +kernel
theorem dX7_readState_88 : decode cX7_readState 88 = .ok (.iastore, 1) := by decide +kernel
theorem dX7_readState_89 : decode cX7_readState 89 = .ok (.aload_n 0, 1) := by decide +kernel
theorem dX7_readState_90 : decode cX7_readState 90 = .ok (.invokevirtual 99, 3) := by decide +kernel
theorem dX7_readState_93 : decode cX7_readState 93 = .ok (.ireturn, 1) := by decide +kernel
theorem dX7_readTrial_0 : decode cX7_readTrial 0 = .ok (.aload_n 0, 1) := by decide +kernel
theorem dX7_readTrial_1 : decode cX7_readTrial 1 = .ok (.getfield 13, 3) := by decide +kernel
theorem dX7_readTrial_4 : decode cX7_readTrial 4 = .ok (.iconst 3, 1) := by decide +kernel
theorem dX7_readTrial_5 : decode cX7_readTrial 5 = .ok (.iaload, 1) := by decide +kernel
theorem dX7_readTrial_6 : decode cX7_readTrial 6 = .ok (.iconst 3, 1) := by decide +kernel
theorem dX7_readTrial_7 : decode cX7_readTrial 7 = .ok (.if_icmp .ne 5, 3) := by decide +kernel
theorem dX7_readTrial_10 : decode cX7_readTrial 10 = .ok (.iconst 0, 1) := by decide +kernel
theorem dX7_readTrial_11 : decode cX7_readTrial 11 = .ok (.ireturn, 1) := by decide +kernel
theorem dX7_readTrial_12 : decode cX7_readTrial 12 = .ok (.bipush 38, 2) := by decide +kernel
theorem dX7_readTrial_14 : decode cX7_readTrial 14 = .ok (.iconst 3, 1) := by decide +kernel
theorem dX7_readTrial_15 : decode cX7_readTrial 15 = .ok (.aload_n 0, 1) := by decide +kernel
theorem dX7_readTrial_16 : decode cX7_readTrial 16 = .ok (.getfield 13, 3) := by decide +kernel
theorem dX7_readTrial_19 : decode cX7_readTrial 19 = .ok (.iconst 3, 1) := by decide +kernel
theorem dX7_readTrial_20 : decode cX7_readTrial 20 = .ok (.iaload, 1) := by decide +kernel
theorem dX7_readTrial_21 : decode cX7_readTrial 21 = .ok (.imul, 1) := by decide +kernel
theorem dX7_readTrial_22 : decode cX7_readTrial 22 = .ok (.iadd, 1) := by decide +kernel
theorem dX7_readTrial_23 : decode cX7_readTrial 23 = .ok (.istore_n 1, 1) := by decide +kernel
theorem dX7_readTrial_24 : decode cX7_readTrial 24 = .ok (.aload_n 0, 1) := by decide +kernel
theorem dX7_readTrial_25 : decode cX7_readTrial 25 = .ok (.aload_n 0, 1) := by decide +kernel
theorem dX7_readTrial_26 : decode cX7_readTrial 26 = .ok (.getfield 13, 3) := by decide +kernel
theorem dX7_readTrial_29 : decode cX7_readTrial 29 = .ok (.iconst 3, 1) := by decide +kernel
theorem dX7_readTrial_30 : decode cX7_readTrial 30 = .ok (.iaload, 1) := by decide +kernel
theorem dX7_readTrial_31 : decode cX7_readTrial 31 = .ok (.ifCond .ne 7, 3) := by decide +kernel
theorem dX7_readTrial_34 : decode cX7_readTrial 34 = .ok (.iconst 0, 1) := by decide +kernel
theorem dX7_readTrial_35 : decode cX7_readTrial 35 = .ok (.goto 13, 3) := by decide +kernel
theorem dX7_readTrial_38 : decode cX7_readTrial 38 = .ok (.aload_n 0, 1) := by decide +kernel
theorem dX7_readTrial_39 : decode cX7_readTrial 39 = .ok (.getfield 13, 3) := by decide +kernel
theorem dX7_readTrial_42 : decode cX7_readTrial 42 = .ok (.iload_n 1, 1) := by decide +kernel
theorem dX7_readTrial_43 : decode cX7_readTrial 43 = .ok (.iconst 3, 1) := by decide +kernel
theorem dX7_readTrial_44 : decode cX7_readTrial 44 = .ok (.isub, 1) := by decide +kernel
theorem dX7_readTrial_45 : decode cX7_readTrial 45 = .ok (.iaload, 1) := by decide +kernel
theorem dX7_readTrial_46 : decode cX7_readTrial 46 = .ok (.iconst 1, 1) := by decide +kernel
theorem dX7_readTrial_47 : decode cX7_readTrial 47 = .ok (.iadd, 1) := by decide +kernel
theorem dX7_readTrial_48 : decode cX7_readTrial 48 = .ok (.aload_n 0, 1) := by decide +kernel
theorem dX7_readTrial_49 : decode cX7_readTrial 49 = .ok (.getfield 13, 3) := by decide +kernel
theorem dX7_readTrial_52 : decode cX7_readTrial 52 = .ok (.iconst 0, 1) := by decide +kernel
theorem dX7_readTrial_53 : decode cX7_readTrial 53 = .ok (.iaload, 1) := by decide +kernel
theorem dX7_readTrial_54 : decode cX7_readTrial 54 = .ok (.iconst 2, 1) := by decide +kernel
theorem dX7_readTrial_55 : decode cX7_readTrial 55 = .ok (.isub, 1) := by decide +kernel
theorem dX7_readTrial_56 : decode cX7_readTrial 56 = .ok (.invokevirtual 95, 3) := by decide +kernel
theorem dX7_readTrial_59 : decode cX7_readTrial 59 = .ok (.ifCond .ne 5, 3) := by decide +kernel
theorem dX7_readTrial_62 : decode cX7_readTrial 62 = .ok (.iconst 0, 1) := by decide +kernel
theorem dX7_readTrial_63 : decode cX7_readTrial 63 = .ok (.ireturn, 1) := by decide +kernel
theorem dX7_readTrial_64 : decode cX7_readTrial 64 = .ok (.aload_n 0, 1) := by decide +kernel
theorem dX7_readTrial_65 : decode cX7_readTrial 65 = .ok (.getfield 13, 3) := by decide +kernel
theorem dX7_readTrial_68 : decode cX7_readTrial 68 = .ok (.iload_n 1, 1) := by decide +kernel
theorem dX7_readTrial_69 : decode cX7_readTrial 69 = .ok (.aload_n 0, 1) := by decide +kernel
theorem dX7_readTrial_70 : decode cX7_readTrial 70 = .ok (.getfield 70, 3) := by decide +kernel
theorem dX7_readTrial_73 : decode cX7_readTrial 73 = .ok (.iastore, 1) := by decide +kernel
theorem dX7_readTrial_74 : decode cX7_readTrial 74 = .ok (.aload_n 0, 1) := by decide +kernel
theorem dX7_readTrial_75 : decode cX7_readTrial 75 = .ok (.aload_n 0, 1) := by decide +kernel
theorem dX7_readTrial_76 : decode cX7_readTrial 76 = .ok (.getfield 13, 3) := by decide +kernel
theorem dX7_readTrial_79 : decode cX7_readTrial 79 = .ok (.iload_n 1, 1) := by decide +kernel
theorem dX7_readTrial_80 : decode cX7_readTrial 80 = .ok (.iaload, 1) := by decide +kernel
theorem dX7_readTrial_81 : decode cX7_readTrial 81 = .ok (.iconst 1, 1) := by decide +kernel
theorem dX7_readTrial_82 : decode cX7_readTrial 82 = .ok (.iadd, 1) := by decide +kernel
theorem dX7_readTrial_83 : decode cX7_readTrial 83 = .ok (.aload_n 0, 1) := by decide +kernel
theorem dX7_readTrial_84 : decode cX7_readTrial 84 = .ok (.getfield 13, 3) := by decide +kernel
theorem dX7_readTrial_87 : decode cX7_readTrial 87 = .ok (.iconst 0, 1) := by decide +kernel
theorem dX7_readTrial_88 : decode cX7_readTrial 88 = .ok (.iaload, 1) := by decide +kernel
theorem dX7_readTrial_89 : decode cX7_readTrial 89 = .ok (.iconst 1, 1) := by decide +kernel
theorem dX7_readTrial_90 : decode cX7_readTrial 90 = .ok (.isub, 1) := by decide +kernel
theorem dX7_readTrial_91 : decode cX7_readTrial 91 = .ok (.invokevirtual 95, 3) := by decide +kernel
theorem dX7_readTrial_94 : decode cX7_readTrial 94 = .ok (.ifCond .ne 5, 3) := by decide +kernel
theorem dX7_readTrial_97 : decode cX7_readTrial 97 = .ok (.iconst 0, 1) := by decide +kernel
theorem dX7_readTrial_98 : decode cX7_readTrial 98 = .ok (.ireturn, 1) := by decide +kernel
theorem dX7_readTrial_99 : decode cX7_readTrial 99 = .ok (.aload_n 0, 1) := by decide +kernel
theorem dX7_readTrial_100 : decode cX7_readTrial 100 = .ok (.getfield 13, 3) := by decide +kernel
theorem dX7_readTrial_103 : decode cX7_readTrial 103 = .ok (.iload_n 1, 1) := by decide +kernel
theorem dX7_readTrial_104 : decode cX7_readTrial 104 = .ok (.iconst 1, 1) := by decide +kernel
theorem dX7_readTrial_105 : decode cX7_readTrial 105 = .ok (.iadd, 1) := by decide +kernel
theorem dX7_readTrial_106 : decode cX7_readTrial 106 = .ok (.aload_n 0, 1) := by decide +kernel
theorem dX7_readTrial_107 : decode cX7_readTrial 107 = .ok (.getfield 70, 3) := by decide +kernel
theorem dX7_readTrial_110 : decode cX7_readTrial 110 = .ok (.iastore, 1) := by decide +kernel
theorem dX7_readTrial_111 : decode cX7_readTrial 111 = .ok (.aload_n 0, 1) := by decide +kernel
theorem dX7_readTrial_112 : decode cX7_readTrial 112 = .ok (.aload_n 0, 1) := by decide +kernel
theorem dX7_readTrial_113 : decode cX7_readTrial 113 = .ok (.getfield 13, 3) := by decide +kernel
theorem dX7_readTrial_116 : decode cX7_readTrial 116 = .ok (.iload_n 1, 1) := by decide +kernel
theorem dX7_readTrial_117 : decode cX7_readTrial 117 = .ok (.iconst 1, 1) := by decide +kernel
theorem dX7_readTrial_118 : decode cX7_readTrial 118 = .ok (.iadd, 1) := by decide +kernel
theorem dX7_readTrial_119 : decode cX7_readTrial 119 = .ok (.iaload, 1) := by decide +kernel
theorem dX7_readTrial_120 : decode cX7_readTrial 120 = .ok (.aload_n 0, 1) := by decide +kernel
theorem dX7_readTrial_121 : decode cX7_readTrial 121 = .ok (.getfield 13, 3) := by decide +kernel
theorem dX7_readTrial_124 : decode cX7_readTrial 124 = .ok (.iconst 0, 1) := by decide +kernel
theorem dX7_readTrial_125 : decode cX7_readTrial 125 = .ok (.iaload, 1) := by decide +kernel
theorem dX7_readTrial_126 : decode cX7_readTrial 126 = .ok (.iconst 1, 1) := by decide +kernel
theorem dX7_readTrial_127 : decode cX7_readTrial 127 = .ok (.isub, 1) := by decide +kernel
theorem dX7_readTrial_128 : decode cX7_readTrial 128 = .ok (.invokevirtual 95, 3) := by decide +kernel
theorem dX7_readTrial_131 : decode cX7_readTrial 131 = .ok (.ifCond .ne 5, 3) := by decide +kernel
theorem dX7_readTrial_134 : decode cX7_readTrial 134 = .ok (.iconst 0, 1) := by decide +kernel
theorem dX7_readTrial_135 : decode cX7_readTrial 135 = .ok (.ireturn, 1) := by decide +kernel
theorem dX7_readTrial_136 : decode cX7_readTrial 136 = .ok (.aload_n 0, 1) := by decide +kernel
theorem dX7_readTrial_137 : decode cX7_readTrial 137 = .ok (.getfield 13, 3) := by decide +kernel
theorem dX7_readTrial_140 : decode cX7_readTrial 140 = .ok (.iload_n 1, 1) := by decide +kernel
theorem dX7_readTrial_141 : decode cX7_readTrial 141 = .ok (.iconst 2, 1) := by decide +kernel
theorem dX7_readTrial_142 : decode cX7_readTrial 142 = .ok (.iadd, 1) := by decide +kernel
theorem dX7_readTrial_143 : decode cX7_readTrial 143 = .ok (.aload_n 0, 1) := by decide +kernel
theorem dX7_readTrial_144 : decode cX7_readTrial 144 = .ok (.getfield 70, 3) := by decide +kernel
theorem dX7_readTrial_147 : decode cX7_readTrial 147 = .ok (.iastore, 1) := by decide +kernel
theorem dX7_readTrial_148 : decode cX7_readTrial 148 = .ok (.aload_n 0, 1) := by decide +kernel
theorem dX7_readTrial_149 : decode cX7_readTrial 149 = .ok (.getfield 13, 3) := by decide +kernel
theorem dX7_readTrial_152 : decode cX7_readTrial 152 = .ok (.iconst 3, 1) := by decide +kernel
theorem dX7_readTrial_153 : decode cX7_readTrial 153 = .ok (.dup2, 1) := by decide +kernel
theorem dX7_readTrial_154 : decode cX7_readTrial 154 = .ok (.iaload, 1) := by decide +kernel
theorem dX7_readTrial_155 : decode cX7_readTrial 155 = .ok (.iconst 1, 1) := by decide +kernel
theorem dX7_readTrial_156 : decode cX7_readTrial 156 = .ok (.iadd, 1) := by decide +kernel
theorem dX7_readTrial_157 : decode cX7_readTrial 157 = .ok (.iastore, 1) := by decide +kernel
theorem dX7_readTrial_158 : decode cX7_readTrial 158 = .ok (.aload_n 0, 1) := by decide +kernel
theorem dX7_readTrial_159 : decode cX7_readTrial 159 = .ok (.invokevirtual 99, 3) := by decide +kernel
theorem dX7_readTrial_162 : decode cX7_readTrial 162 = .ok (.ireturn, 1) := by decide +kernel
theorem dX7_readDeed_0 : decode cX7_readDeed 0 = .ok (.aload_n 0, 1) := by decide +kernel
theorem dX7_readDeed_1 : decode cX7_readDeed 1 = .ok (.getfield 13, 3) := by decide +kernel
theorem dX7_readDeed_4 : decode cX7_readDeed 4 = .ok (.iconst 5, 1) := by decide +kernel
theorem dX7_readDeed_5 : decode cX7_readDeed 5 = .ok (.iaload, 1) := by decide +kernel
theorem dX7_readDeed_6 : decode cX7_readDeed 6 = .ok (.iconst 4, 1) := by decide +kernel
theorem dX7_readDeed_7 : decode cX7_readDeed 7 = .ok (.if_icmp .eq 12, 3) := by decide +kernel
theorem dX7_readDeed_10 : decode cX7_readDeed 10 = .ok (.aload_n 0, 1) := by decide +kernel
theorem dX7_readDeed_11 : decode cX7_readDeed 11 = .ok (.iconst 0, 1) := by decide +kernel
theorem dX7_readDeed_12 : decode cX7_readDeed 12 = .ok (.iconst 5, 1) := by decide +kernel
theorem dX7_readDeed_13 : decode cX7_readDeed 13 = .ok (.invokevirtual 95, 3) := by decide +kernel
theorem dX7_readDeed_16 : decode cX7_readDeed 16 = .ok (.ifCond .ne 5, 3) := by decide +kernel
theorem dX7_readDeed_19 : decode cX7_readDeed 19 = .ok (.iconst 0, 1) := by decide +kernel
theorem dX7_readDeed_20 : decode cX7_readDeed 20 = .ok (.ireturn, 1) := by decide +kernel
theorem dX7_readDeed_21 : decode cX7_readDeed 21 = .ok (.aload_n 0, 1) := by decide +kernel
theorem dX7_readDeed_22 : decode cX7_readDeed 22 = .ok (.getfield 13, 3) := by decide +kernel
theorem dX7_readDeed_25 : decode cX7_readDeed 25 = .ok (.bipush 47, 2) := by decide +kernel
theorem dX7_readDeed_27 : decode cX7_readDeed 27 = .ok (.iconst 2, 1) := by decide +kernel
theorem dX7_readDeed_28 : decode cX7_readDeed 28 = .ok (.aload_n 0, 1) := by decide +kernel
theorem dX7_readDeed_29 : decode cX7_readDeed 29 = .ok (.getfield 13, 3) := by decide +kernel
theorem dX7_readDeed_32 : decode cX7_readDeed 32 = .ok (.iconst 5, 1) := by decide +kernel
theorem dX7_readDeed_33 : decode cX7_readDeed 33 = .ok (.iaload, 1) := by decide +kernel
theorem dX7_readDeed_34 : decode cX7_readDeed 34 = .ok (.imul, 1) := by decide +kernel
theorem dX7_readDeed_35 : decode cX7_readDeed 35 = .ok (.iadd, 1) := by decide +kernel
theorem dX7_readDeed_36 : decode cX7_readDeed 36 = .ok (.aload_n 0, 1) := by decide +kernel
theorem dX7_readDeed_37 : decode cX7_readDeed 37 = .ok (.getfield 70, 3) := by decide +kernel
theorem dX7_readDeed_40 : decode cX7_readDeed 40 = .ok (.iastore, 1) := by decide +kernel
theorem dX7_readDeed_41 : decode cX7_readDeed 41 = .ok (.aload_n 0, 1) := by decide +kernel
theorem dX7_readDeed_42 : decode cX7_readDeed 42 = .ok (.iconst 0, 1) := by decide +kernel
theorem dX7_readDeed_43 : decode cX7_readDeed 43 = .ok (.iconst 5, 1) := by decide +kernel
theorem dX7_readDeed_44 : decode cX7_readDeed 44 = .ok (.invokevirtual 95, 3) := by decide +kernel
theorem dX7_readDeed_47 : decode cX7_readDeed 47 = .ok (.ifCond .ne 5, 3) := by decide +kernel
theorem dX7_readDeed_50 : decode cX7_readDeed 50 = .ok (.iconst 0, 1) := by decide +kernel
theorem dX7_readDeed_51 : decode cX7_readDeed 51 = .ok (.ireturn, 1) := by decide +kernel
theorem dX7_readDeed_52 : decode cX7_readDeed 52 = .ok (.aload_n 0, 1) := by decide +kernel
theorem dX7_readDeed_53 : decode cX7_readDeed 53 = .ok (.getfield 13, 3) := by decide +kernel
theorem dX7_readDeed_56 : decode cX7_readDeed 56 = .ok (.bipush 47, 2) := by decide +kernel
theorem dX7_readDeed_58 : decode cX7_readDeed 58 = .ok (.iconst 2, 1) := by decide +kernel
theorem dX7_readDeed_59 : decode cX7_readDeed 59 = .ok (.aload_n 0, 1) := by decide +kernel
theorem dX7_readDeed_60 : decode cX7_readDeed 60 = .ok (.getfield 13, 3) := by decide +kernel
theorem dX7_readDeed_63 : decode cX7_readDeed 63 = .ok (.iconst 5, 1) := by decide +kernel
theorem dX7_readDeed_64 : decode cX7_readDeed 64 = .ok (.iaload, 1) := by decide +kernel
theorem dX7_readDeed_65 : decode cX7_readDeed 65 = .ok (.imul, 1) := by decide +kernel
theorem dX7_readDeed_66 : decode cX7_readDeed 66 = .ok (.iadd, 1) := by decide +kernel
theorem dX7_readDeed_67 : decode cX7_readDeed 67 = .ok (.iconst 1, 1) := by decide +kernel
theorem dX7_readDeed_68 : decode cX7_readDeed 68 = .ok (.iadd, 1) := by decide +kernel
theorem dX7_readDeed_69 : decode cX7_readDeed 69 = .ok (.aload_n 0, 1) := by decide +kernel
theorem dX7_readDeed_70 : decode cX7_readDeed 70 = .ok (.getfield 70, 3) := by decide +kernel
theorem dX7_readDeed_73 : decode cX7_readDeed 73 = .ok (.iastore, 1) := by decide +kernel
theorem dX7_readDeed_74 : decode cX7_readDeed 74 = .ok (.aload_n 0, 1) := by decide +kernel
theorem dX7_readDeed_75 : decode cX7_readDeed 75 = .ok (.getfield 13, 3) := by decide +kernel
theorem dX7_readDeed_78 : decode cX7_readDeed 78 = .ok (.iconst 5, 1) := by decide +kernel
theorem dX7_readDeed_79 : decode cX7_readDeed 79 = .ok (.dup2, 1) := by decide +kernel
theorem dX7_readDeed_80 : decode cX7_readDeed 80 = .ok (.iaload, 1) := by decide +kernel
theorem dX7_readDeed_81 : decode cX7_readDeed 81 = .ok (.iconst 1, 1) := by decide +kernel
theorem dX7_readDeed_82 : decode cX7_readDeed 82 = .ok (.iadd, 1) := by decide +kernel
theorem dX7_readDeed_83 : decode cX7_readDeed 83 = .ok (.iastore, 1) := by decide +kernel
theorem dX7_readDeed_84 : decode cX7_readDeed 84 = .ok (.aload_n 0, 1) := by decide +kernel
theorem dX7_readDeed_85 : decode cX7_readDeed 85 = .ok (.invokevirtual 99, 3) := by decide +kernel
theorem dX7_readDeed_88 : decode cX7_readDeed 88 = .ok (.ireturn, 1) := by decide +kernel
theorem dX7_readItem_0 : decode cX7_readItem 0 = .ok (.aload_n 0, 1) := by decide +kernel
theorem dX7_readItem_1 : decode cX7_readItem 1 = .ok (.getfield 80, 3) := by decide +kernel
theorem dX7_readItem_4 : decode cX7_readItem 4 = .ok (.iconst 1, 1) := by decide +kernel
theorem dX7_readItem_5 : decode cX7_readItem 5 = .ok (.if_icmp .eq 5, 3) := by decide +kernel
theorem dX7_readItem_8 : decode cX7_readItem 8 = .ok (.iconst 0, 1) := by decide +kernel
theorem dX7_readItem_9 : decode cX7_readItem 9 = .ok (.ireturn, 1) := by decide +kernel
theorem dX7_readItem_10 : decode cX7_readItem 10 = .ok (.aload_n 0, 1) := by decide +kernel
theorem dX7_readItem_11 : decode cX7_readItem 11 = .ok (.getfield 70, 3) := by decide +kernel
theorem dX7_readItem_14 : decode cX7_readItem 14 = .ok (.lookupswitch 106 #[(98, 77), (113, 86), (115, 96), (116, 101), (121, 50)], 50) := by decide +kernel
theorem dX7_readItem_64 : decode cX7_readItem 64 = .ok (.aload_n 0, 1) := by decide +kernel
theorem dX7_readItem_65 : decode cX7_readItem 65 = .ok (.getfield 13, 3) := by decide +kernel
theorem dX7_readItem_68 : decode cX7_readItem 68 = .ok (.iconst 3, 1) := by decide +kernel
theorem dX7_readItem_69 : decode cX7_readItem 69 = .ok (.iaload, 1) := by decide +kernel
theorem dX7_readItem_70 : decode cX7_readItem 70 = .ok (.ifCond .ne 19, 3) := by decide +kernel
theorem dX7_readItem_73 : decode cX7_readItem 73 = .ok (.aload_n 0, 1) := by decide +kernel
theorem dX7_readItem_74 : decode cX7_readItem 74 = .ok (.iconst 1, 1) := by decide +kernel
theorem dX7_readItem_75 : decode cX7_readItem 75 = .ok (.iconst 0, 1) := by decide +kernel
theorem dX7_readItem_76 : decode cX7_readItem 76 = .ok (.iconst 2, 1) := by decide +kernel
theorem dX7_readItem_77 : decode cX7_readItem 77 = .ok (.bipush 16, 2) := by decide +kernel
theorem dX7_readItem_79 : decode cX7_readItem 79 = .ok (.invokevirtual 103, 3) := by decide +kernel
theorem dX7_readItem_82 : decode cX7_readItem 82 = .ok (.ifCond .eq 7, 3) := by decide +kernel
theorem dX7_readItem_85 : decode cX7_readItem 85 = .ok (.iconst 1, 1) := by decide +kernel
theorem dX7_readItem_86 : decode cX7_readItem 86 = .ok (.goto 4, 3) := by decide +kernel
theorem dX7_readItem_89 : decode cX7_readItem 89 = .ok (.iconst 0, 1) := by decide +kernel
theorem dX7_readItem_90 : decode cX7_readItem 90 = .ok (.ireturn, 1) := by decide +kernel
theorem dX7_readItem_91 : decode cX7_readItem 91 = .ok (.aload_n 0, 1) := by decide +kernel
theorem dX7_readItem_92 : decode cX7_readItem 92 = .ok (.iconst 2, 1) := by decide +kernel
theorem dX7_readItem_93 : decode cX7_readItem 93 = .ok (.iconst 2, 1) := by decide +kernel
theorem dX7_readItem_94 : decode cX7_readItem 94 = .ok (.iconst 0, 1) := by decide +kernel
theorem dX7_readItem_95 : decode cX7_readItem 95 = .ok (.iconst 5, 1) := by decide +kernel
theorem dX7_readItem_96 : decode cX7_readItem 96 = .ok (.invokevirtual 103, 3) := by decide +kernel
theorem dX7_readItem_99 : decode cX7_readItem 99 = .ok (.ireturn, 1) := by decide +kernel
theorem dX7_readItem_100 : decode cX7_readItem 100 = .ok (.aload_n 0, 1) := by decide +kernel
theorem dX7_readItem_101 : decode cX7_readItem 101 = .ok (.iconst 4, 1) := by decide +kernel
theorem dX7_readItem_102 : decode cX7_readItem 102 = .ok (.iconst 4, 1) := by decide +kernel
theorem dX7_readItem_103 : decode cX7_readItem 103 = .ok (.iconst 1, 1) := by decide +kernel
theorem dX7_readItem_104 : decode cX7_readItem 104 = .ok (.bipush 9, 2) := by decide +kernel
theorem dX7_readItem_106 : decode cX7_readItem 106 = .ok (.invokevirtual 103, 3) := by decide +kernel
theorem dX7_readItem_109 : decode cX7_readItem 109 = .ok (.ireturn, 1) := by decide +kernel
theorem dX7_readItem_110 : decode cX7_readItem 110 = .ok (.aload_n 0, 1) := by decide +kernel
theorem dX7_readItem_111 : decode cX7_readItem 111 = .ok (.invokevirtual 107, 3) := by decide +kernel
theorem dX7_readItem_114 : decode cX7_readItem 114 = .ok (.ireturn, 1) := by decide +kernel
theorem dX7_readItem_115 : decode cX7_readItem 115 = .ok (.aload_n 0, 1) := by decide +kernel
theorem dX7_readItem_116 : decode cX7_readItem 116 = .ok (.invokevirtual 110, 3) := by decide +kernel
theorem dX7_readItem_119 : decode cX7_readItem 119 = .ok (.ireturn, 1) := by decide +kernel
theorem dX7_readItem_120 : decode cX7_readItem 120 = .ok (.aload_n 0, 1) := by decide +kernel
theorem dX7_readItem_121 : decode cX7_readItem 121 = .ok (.invokevirtual 113, 3) := by decide +kernel
theorem dX7_readItem_124 : decode cX7_readItem 124 = .ok (.ireturn, 1) := by decide +kernel
theorem dX7_court_0 : decode cX7_court 0 = .ok (.aload_n 0, 1) := by decide +kernel
theorem dX7_court_1 : decode cX7_court 1 = .ok (.invokevirtual 43, 3) := by decide +kernel
theorem dX7_court_4 : decode cX7_court 4 = .ok (.aload_n 0, 1) := by decide +kernel
theorem dX7_court_5 : decode cX7_court 5 = .ok (.iconst 0, 1) := by decide +kernel
theorem dX7_court_6 : decode cX7_court 6 = .ok (.putfield 67, 3) := by decide +kernel
theorem dX7_court_9 : decode cX7_court 9 = .ok (.iconst 0, 1) := by decide +kernel
theorem dX7_court_10 : decode cX7_court 10 = .ok (.istore_n 1, 1) := by decide +kernel
theorem dX7_court_11 : decode cX7_court 11 = .ok (.aload_n 0, 1) := by decide +kernel
theorem dX7_court_12 : decode cX7_court 12 = .ok (.invokevirtual 92, 3) := by decide +kernel
theorem dX7_court_15 : decode cX7_court 15 = .ok (.aload_n 0, 1) := by decide +kernel
theorem dX7_court_16 : decode cX7_court 16 = .ok (.getfield 80, 3) := by decide +kernel
theorem dX7_court_19 : decode cX7_court 19 = .ok (.ifCond .eq 28, 3) := by decide +kernel
theorem dX7_court_22 : decode cX7_court 22 = .ok (.aload_n 0, 1) := by decide +kernel
theorem dX7_court_23 : decode cX7_court 23 = .ok (.invokevirtual 116, 3) := by decide +kernel
theorem dX7_court_26 : decode cX7_court 26 = .ok (.ifCond .ne 11, 3) := by decide +kernel
theorem dX7_court_29 : decode cX7_court 29 = .ok (.bipush (-10), 2) := by decide +kernel
theorem dX7_court_31 : decode cX7_court 31 = .ok (.aload_n 0, 1) := by decide +kernel
theorem dX7_court_32 : decode cX7_court 32 = .ok (.getfield 77, 3) := by decide +kernel
theorem dX7_court_35 : decode cX7_court 35 = .ok (.isub, 1) := by decide +kernel
theorem dX7_court_36 : decode cX7_court 36 = .ok (.ireturn, 1) := by decide +kernel
theorem dX7_court_37 : decode cX7_court 37 = .ok (.iinc 1 1, 3) := by decide +kernel
theorem dX7_court_40 : decode cX7_court 40 = .ok (.aload_n 0, 1) := by decide +kernel
theorem dX7_court_41 : decode cX7_court 41 = .ok (.invokevirtual 92, 3) := by decide +kernel
theorem dX7_court_44 : decode cX7_court 44 = .ok (.goto (-29), 3) := by decide +kernel
theorem dX7_court_47 : decode cX7_court 47 = .ok (.aload_n 0, 1) := by decide +kernel
theorem dX7_court_48 : decode cX7_court 48 = .ok (.iconst 0, 1) := by decide +kernel
theorem dX7_court_49 : decode cX7_court 49 = .ok (.putfield 55, 3) := by decide +kernel
theorem dX7_court_52 : decode cX7_court 52 = .ok (.aload_n 0, 1) := by decide +kernel
theorem dX7_court_53 : decode cX7_court 53 = .ok (.invokevirtual 46, 3) := by decide +kernel
theorem dX7_court_56 : decode cX7_court 56 = .ok (.iload_n 1, 1) := by decide +kernel
theorem dX7_court_57 : decode cX7_court 57 = .ok (.ireturn, 1) := by decide +kernel
theorem dX7_takesIt_0 : decode cX7_takesIt 0 = .ok (.iconst 0, 1) := by decide +kernel
theorem dX7_takesIt_1 : decode cX7_takesIt 1 = .ok (.istore_n 1, 1) := by decide +kernel
theorem dX7_takesIt_2 : decode cX7_takesIt 2 = .ok (.iload_n 1, 1) := by decide +kernel
theorem dX7_takesIt_3 : decode cX7_takesIt 3 = .ok (.bipush 55, 2) := by decide +kernel
theorem dX7_takesIt_5 : decode cX7_takesIt 5 = .ok (.if_icmp .ge 21, 3) := by decide +kernel
theorem dX7_takesIt_8 : decode cX7_takesIt 8 = .ok (.aload_n 0, 1) := by decide +kernel
theorem dX7_takesIt_9 : decode cX7_takesIt 9 = .ok (.getfield 16, 3) := by decide +kernel
theorem dX7_takesIt_12 : decode cX7_takesIt 12 = .ok (.iload_n 1, 1) := by decide +kernel
theorem dX7_takesIt_13 : decode cX7_takesIt 13 = .ok (.aload_n 0, 1) := by decide +kernel
theorem dX7_takesIt_14 : decode cX7_takesIt 14 = .ok (.getfield 13, 3) := by decide +kernel
theorem dX7_takesIt_17 : decode cX7_takesIt 17 = .ok (.iload_n 1, 1) := by decide +kernel
theorem dX7_takesIt_18 : decode cX7_takesIt 18 = .ok (.iaload, 1) := by decide +kernel
theorem dX7_takesIt_19 : decode cX7_takesIt 19 = .ok (.iastore, 1) := by decide +kernel
theorem dX7_takesIt_20 : decode cX7_takesIt 20 = .ok (.iinc 1 1, 3) := by decide +kernel
theorem dX7_takesIt_23 : decode cX7_takesIt 23 = .ok (.goto (-21), 3) := by decide +kernel
theorem dX7_takesIt_26 : decode cX7_takesIt 26 = .ok (.aload_n 0, 1) := by decide +kernel
theorem dX7_takesIt_27 : decode cX7_takesIt 27 = .ok (.iconst 0, 1) := by decide +kernel
theorem dX7_takesIt_28 : decode cX7_takesIt 28 = .ok (.putfield 119, 3) := by decide +kernel
theorem dX7_takesIt_31 : decode cX7_takesIt 31 = .ok (.aload_n 0, 1) := by decide +kernel
theorem dX7_takesIt_32 : decode cX7_takesIt 32 = .ok (.iconst 0, 1) := by decide +kernel
theorem dX7_takesIt_33 : decode cX7_takesIt 33 = .ok (.putfield 122, 3) := by decide +kernel
theorem dX7_takesIt_36 : decode cX7_takesIt 36 = .ok (.aload_n 0, 1) := by decide +kernel
theorem dX7_takesIt_37 : decode cX7_takesIt 37 = .ok (.iconst 0, 1) := by decide +kernel
theorem dX7_takesIt_38 : decode cX7_takesIt 38 = .ok (.putfield 125, 3) := by decide +kernel
theorem dX7_takesIt_41 : decode cX7_takesIt 41 = .ok (.aload_n 0, 1) := by decide +kernel
theorem dX7_takesIt_42 : decode cX7_takesIt 42 = .ok (.getfield 40, 3) := by decide +kernel
theorem dX7_takesIt_45 : decode cX7_takesIt 45 = .ok (.iconst 0, 1) := by decide +kernel
theorem dX7_takesIt_46 : decode cX7_takesIt 46 = .ok (.iconst 0, 1) := by decide +kernel
theorem dX7_takesIt_47 : decode cX7_takesIt 47 = .ok (.iastore, 1) := by decide +kernel
theorem dX7_takesIt_48 : decode cX7_takesIt 48 = .ok (.aload_n 0, 1) := by decide +kernel
theorem dX7_takesIt_49 : decode cX7_takesIt 49 = .ok (.getfield 40, 3) := by decide +kernel
theorem dX7_takesIt_52 : decode cX7_takesIt 52 = .ok (.sipush 145, 3) := by decide +kernel
theorem dX7_takesIt_55 : decode cX7_takesIt 55 = .ok (.iconst 0, 1) := by decide +kernel
theorem dX7_takesIt_56 : decode cX7_takesIt 56 = .ok (.iastore, 1) := by decide +kernel
theorem dX7_takesIt_57 : decode cX7_takesIt 57 = .ok (.return_, 1) := by decide +kernel
theorem dX7_isState_0 : decode cX7_isState 0 = .ok (.iload_n 1, 1) := by decide +kernel
theorem dX7_isState_1 : decode cX7_isState 1 = .ok (.i2l, 1) := by decide +kernel
theorem dX7_isState_2 : decode cX7_isState 2 = .ok (.lconst 0, 1) := by decide +kernel
theorem dX7_isState_3 : decode cX7_isState 3 = .ok (.aload_n 0, 1) := by decide +kernel
theorem dX7_isState_4 : decode cX7_isState 4 = .ok (.getfield 16, 3) := by decide +kernel
theorem dX7_isState_7 : decode cX7_isState 7 = .ok (.iconst 1, 1) := by decide +kernel
theorem dX7_isState_8 : decode cX7_isState 8 = .ok (.iaload, 1) := by decide +kernel
theorem dX7_isState_9 : decode cX7_isState 9 = .ok (.iconst 1, 1) := by decide +kernel
theorem dX7_isState_10 : decode cX7_isState 10 = .ok (.isub, 1) := by decide +kernel
theorem dX7_isState_11 : decode cX7_isState 11 = .ok (.i2l, 1) := by decide +kernel
theorem dX7_isState_12 : decode cX7_isState 12 = .ok (.invokestatic 51, 3) := by decide +kernel
theorem dX7_isState_15 : decode cX7_isState 15 = .ok (.ireturn, 1) := by decide +kernel
theorem dX7_isTrial_0 : decode cX7_isTrial 0 = .ok (.iload_n 1, 1) := by decide +kernel
theorem dX7_isTrial_1 : decode cX7_isTrial 1 = .ok (.i2l, 1) := by decide +kernel
theorem dX7_isTrial_2 : decode cX7_isTrial 2 = .ok (.lconst 0, 1) := by decide +kernel
theorem dX7_isTrial_3 : decode cX7_isTrial 3 = .ok (.aload_n 0, 1) := by decide +kernel
theorem dX7_isTrial_4 : decode cX7_isTrial 4 = .ok (.getfield 16, 3) := by decide +kernel
theorem dX7_isTrial_7 : decode cX7_isTrial 7 = .ok (.iconst 3, 1) := by decide +kernel
theorem dX7_isTrial_8 : decode cX7_isTrial 8 = .ok (.iaload, 1) := by decide +kernel
theorem dX7_isTrial_9 : decode cX7_isTrial 9 = .ok (.iconst 1, 1) := by decide +kernel
theorem dX7_isTrial_10 : decode cX7_isTrial 10 = .ok (.isub, 1) := by decide +kernel
theorem dX7_isTrial_11 : decode cX7_isTrial 11 = .ok (.i2l, 1) := by decide +kernel
theorem dX7_isTrial_12 : decode cX7_isTrial 12 = .ok (.invokestatic 51, 3) := by decide +kernel
theorem dX7_isTrial_15 : decode cX7_isTrial 15 = .ok (.ireturn, 1) := by decide +kernel
theorem dX7_isYear_0 : decode cX7_isYear 0 = .ok (.iload_n 1, 1) := by decide +kernel
theorem dX7_isYear_1 : decode cX7_isYear 1 = .ok (.i2l, 1) := by decide +kernel
theorem dX7_isYear_2 : decode cX7_isYear 2 = .ok (.lconst 0, 1) := by decide +kernel
theorem dX7_isYear_3 : decode cX7_isYear 3 = .ok (.aload_n 0, 1) := by decide +kernel
theorem dX7_isYear_4 : decode cX7_isYear 4 = .ok (.getfield 16, 3) := by decide +kernel
theorem dX7_isYear_7 : decode cX7_isYear 7 = .ok (.iconst 0, 1) := by decide +kernel
theorem dX7_isYear_8 : decode cX7_isYear 8 = .ok (.iaload, 1) := by decide +kernel
theorem dX7_isYear_9 : decode cX7_isYear 9 = .ok (.iconst 1, 1) := by decide +kernel
theorem dX7_isYear_10 : decode cX7_isYear 10 = .ok (.isub, 1) := by decide +kernel
theorem dX7_isYear_11 : decode cX7_isYear 11 = .ok (.i2l, 1) := by decide +kernel
theorem dX7_isYear_12 : decode cX7_isYear 12 = .ok (.invokestatic 51, 3) := by decide +kernel
theorem dX7_isYear_15 : decode cX7_isYear 15 = .ok (.ireturn, 1) := by decide +kernel
theorem dX7_of_0 : decode cX7_of 0 = .ok (.aload_n 0, 1) := by decide +kernel
theorem dX7_of_1 : decode cX7_of 1 = .ok (.getfield 16, 3) := by decide +kernel
theorem dX7_of_4 : decode cX7_of 4 = .ok (.bipush 8, 2) := by decide +kernel
theorem dX7_of_6 : decode cX7_of 6 = .ok (.iconst 5, 1) := by decide +kernel
theorem dX7_of_7 : decode cX7_of 7 = .ok (.iload_n 1, 1) := by decide +kernel
theorem dX7_of_8 : decode cX7_of 8 = .ok (.imul, 1) := by decide +kernel
theorem dX7_of_9 : decode cX7_of 9 = .ok (.iadd, 1) := by decide +kernel
theorem dX7_of_10 : decode cX7_of 10 = .ok (.iload_n 2, 1) := by decide +kernel
theorem dX7_of_11 : decode cX7_of 11 = .ok (.iadd, 1) := by decide +kernel
theorem dX7_of_12 : decode cX7_of 12 = .ok (.iaload, 1) := by decide +kernel
theorem dX7_of_13 : decode cX7_of 13 = .ok (.ireturn, 1) := by decide +kernel
theorem dX7_lean_0 : decode cX7_lean 0 = .ok (.aload_n 0, 1) := by decide +kernel
theorem dX7_lean_1 : decode cX7_lean 1 = .ok (.iload_n 1, 1) := by decide +kernel
theorem dX7_lean_2 : decode cX7_lean 2 = .ok (.iconst 0, 1) := by decide +kernel
theorem dX7_lean_3 : decode cX7_lean 3 = .ok (.invokevirtual 128, 3) := by decide +kernel
theorem dX7_lean_6 : decode cX7_lean 6 = .ok (.bipush 9, 2) := by decide +kernel
theorem dX7_lean_8 : decode cX7_lean 8 = .ok (.isub, 1) := by decide +kernel
theorem dX7_lean_9 : decode cX7_lean 9 = .ok (.ireturn, 1) := by decide +kernel
theorem dX7_state_0 : decode cX7_state 0 = .ok (.aload_n 0, 1) := by decide +kernel
theorem dX7_state_1 : decode cX7_state 1 = .ok (.iload_n 1, 1) := by decide +kernel
theorem dX7_state_2 : decode cX7_state 2 = .ok (.invokevirtual 132, 3) := by decide +kernel
theorem dX7_state_5 : decode cX7_state 5 = .ok (.ifCond .eq 36, 3) := by decide +kernel
theorem dX7_state_8 : decode cX7_state 8 = .ok (.iload_n 2, 1) := by decide +kernel
theorem dX7_state_9 : decode cX7_state 9 = .ok (.i2l, 1) := by decide +kernel
theorem dX7_state_10 : decode cX7_state 10 = .ok (.lconst 0, 1) := by decide +kernel
theorem dX7_state_11 : decode cX7_state 11 = .ok (.ldc2_w 135, 3) := by decide +kernel
theorem dX7_state_14 : decode cX7_state 14 = .ok (.invokestatic 51, 3) := by decide +kernel
theorem dX7_state_17 : decode cX7_state 17 = .ok (.ifCond .eq 24, 3) := by decide +kernel
theorem dX7_state_20 : decode cX7_state 20 = .ok (.iload_n 2, 1) := by decide +kernel
theorem dX7_state_21 : decode cX7_state 21 = .ok (.ifCond .ne 11, 3) := by decide +kernel
theorem dX7_state_24 : decode cX7_state 24 = .ok (.aload_n 0, 1) := by decide +kernel
theorem dX7_state_25 : decode cX7_state 25 = .ok (.iload_n 1, 1) := by decide +kernel
theorem dX7_state_26 : decode cX7_state 26 = .ok (.invokevirtual 137, 3) := by decide +kernel
theorem dX7_state_29 : decode cX7_state 29 = .ok (.goto 14, 3) := by decide +kernel
theorem dX7_state_32 : decode cX7_state 32 = .ok (.aload_n 0, 1) := by decide +kernel
theorem dX7_state_33 : decode cX7_state 33 = .ok (.iload_n 1, 1) := by decide +kernel
theorem dX7_state_34 : decode cX7_state 34 = .ok (.iload_n 2, 1) := by decide +kernel
theorem dX7_state_35 : decode cX7_state 35 = .ok (.invokevirtual 128, 3) := by decide +kernel
theorem dX7_state_38 : decode cX7_state 38 = .ok (.goto 5, 3) := by decide +kernel
theorem dX7_state_41 : decode cX7_state 41 = .ok (.ldc 141, 2) := by decide +kernel
theorem dX7_state_43 : decode cX7_state 43 = .ok (.ireturn, 1) := by decide +kernel
theorem dX7_trial_0 : decode cX7_trial 0 = .ok (.aload_n 0, 1) := by decide +kernel
theorem dX7_trial_1 : decode cX7_trial 1 = .ok (.iload_n 1, 1) := by decide +kernel
theorem dX7_trial_2 : decode cX7_trial 2 = .ok (.invokevirtual 142, 3) := by decide +kernel
theorem dX7_trial_5 : decode cX7_trial 5 = .ok (.ifCond .eq 31, 3) := by decide +kernel
theorem dX7_trial_8 : decode cX7_trial 8 = .ok (.iload_n 2, 1) := by decide +kernel
theorem dX7_trial_9 : decode cX7_trial 9 = .ok (.i2l, 1) := by decide +kernel
theorem dX7_trial_10 : decode cX7_trial 10 = .ok (.lconst 0, 1) := by decide +kernel
theorem dX7_trial_11 : decode cX7_trial 11 = .ok (.ldc2_w 145, 3) := by decide +kernel
theorem dX7_trial_14 : decode cX7_trial 14 = .ok (.invokestatic 51, 3) := by decide +kernel
theorem dX7_trial_17 : decode cX7_trial 17 = .ok (.ifCond .eq 19, 3) := by decide +kernel
theorem dX7_trial_20 : decode cX7_trial 20 = .ok (.aload_n 0, 1) := by decide +kernel
theorem dX7_trial_21 : decode cX7_trial 21 = .ok (.getfield 16, 3) := by decide +kernel
theorem dX7_trial_24 : decode cX7_trial 24 = .ok (.bipush 38, 2) := by decide +kernel
theorem dX7_trial_26 : decode cX7_trial 26 = .ok (.iconst 3, 1) := by decide +kernel
theorem dX7_trial_27 : decode cX7_trial 27 = .ok (.iload_n 1, 1) := by decide +kernel
theorem dX7_trial_28 : decode cX7_trial 28 = .ok (.imul, 1) := by decide +kernel
theorem dX7_trial_29 : decode cX7_trial 29 = .ok (.iadd, 1) := by decide +kernel
theorem dX7_trial_30 : decode cX7_trial 30 = .ok (.iload_n 2, 1) := by decide +kernel
theorem dX7_trial_31 : decode cX7_trial 31 = .ok (.iadd, 1) := by decide +kernel
theorem dX7_trial_32 : decode cX7_trial 32 = .ok (.iaload, 1) := by decide +kernel
theorem dX7_trial_33 : decode cX7_trial 33 = .ok (.goto 4, 3) := by decide +kernel
theorem dX7_trial_36 : decode cX7_trial 36 = .ok (.iconst (-1), 1) := by decide +kernel
theorem dX7_trial_37 : decode cX7_trial 37 = .ok (.ireturn, 1) := by decide +kernel
theorem dX7_deed_0 : decode cX7_deed 0 = .ok (.iload_n 1, 1) := by decide +kernel
theorem dX7_deed_1 : decode cX7_deed 1 = .ok (.i2l, 1) := by decide +kernel
theorem dX7_deed_2 : decode cX7_deed 2 = .ok (.lconst 0, 1) := by decide +kernel
theorem dX7_deed_3 : decode cX7_deed 3 = .ok (.aload_n 0, 1) := by decide +kernel
theorem dX7_deed_4 : decode cX7_deed 4 = .ok (.getfield 16, 3) := by decide +kernel
theorem dX7_deed_7 : decode cX7_deed 7 = .ok (.iconst 5, 1) := by decide +kernel
theorem dX7_deed_8 : decode cX7_deed 8 = .ok (.iaload, 1) := by decide +kernel
theorem dX7_deed_9 : decode cX7_deed 9 = .ok (.iconst 1, 1) := by decide +kernel
theorem dX7_deed_10 : decode cX7_deed 10 = .ok (.isub, 1) := by decide +kernel
theorem dX7_deed_11 : decode cX7_deed 11 = .ok (.i2l, 1) := by decide +kernel
theorem dX7_deed_12 : decode cX7_deed 12 = .ok (.invokestatic 51, 3) := by decide +kernel
theorem dX7_deed_15 : decode cX7_deed 15 = .ok (.ifCond .eq 29, 3) := by decide +kernel
theorem dX7_deed_18 : decode cX7_deed 18 = .ok (.iload_n 2, 1) := by decide +kernel
theorem dX7_deed_19 : decode cX7_deed 19 = .ok (.i2l, 1) := by decide +kernel
theorem dX7_deed_20 : decode cX7_deed 20 = .ok (.lconst 0, 1) := by decide +kernel
theorem dX7_deed_21 : decode cX7_deed 21 = .ok (.lconst 1, 1) := by decide +kernel
theorem dX7_deed_22 : decode cX7_deed 22 = .ok (.invokestatic 51, 3) := by decide +kernel
theorem dX7_deed_25 : decode cX7_deed 25 = .ok (.ifCond .eq 19, 3) := by decide +kernel
theorem dX7_deed_28 : decode cX7_deed 28 = .ok (.aload_n 0, 1) := by decide +kernel
theorem dX7_deed_29 : decode cX7_deed 29 = .ok (.getfield 16, 3) := by decide +kernel
theorem dX7_deed_32 : decode cX7_deed 32 = .ok (.bipush 47, 2) := by decide +kernel
theorem dX7_deed_34 : decode cX7_deed 34 = .ok (.iconst 2, 1) := by decide +kernel
theorem dX7_deed_35 : decode cX7_deed 35 = .ok (.iload_n 1, 1) := by decide +kernel
theorem dX7_deed_36 : decode cX7_deed 36 = .ok (.imul, 1) := by decide +kernel
theorem dX7_deed_37 : decode cX7_deed 37 = .ok (.iadd, 1) := by decide +kernel
theorem dX7_deed_38 : decode cX7_deed 38 = .ok (.iload_n 2, 1) := by decide +kernel
theorem dX7_deed_39 : decode cX7_deed 39 = .ok (.iadd, 1) := by decide +kernel
theorem dX7_deed_40 : decode cX7_deed 40 = .ok (.iaload, 1) := by decide +kernel
theorem dX7_deed_41 : decode cX7_deed 41 = .ok (.goto 4, 3) := by decide +kernel
theorem dX7_deed_44 : decode cX7_deed 44 = .ok (.iconst (-1), 1) := by decide +kernel
theorem dX7_deed_45 : decode cX7_deed 45 = .ok (.ireturn, 1) := by decide +kernel
theorem dX7_notes_0 : decode cX7_notes 0 = .ok (.aload_n 0, 1) := by decide +kernel
theorem dX7_notes_1 : decode cX7_notes 1 = .ok (.getfield 122, 3) := by decide +kernel
theorem dX7_notes_4 : decode cX7_notes 4 = .ok (.bipush 10, 2) := by decide +kernel
theorem dX7_notes_6 : decode cX7_notes 6 = .ok (.if_icmp .ne 40, 3) := by decide +kernel
theorem dX7_notes_9 : decode cX7_notes 9 = .ok (.bipush 13, 2) := by decide +kernel
theorem dX7_notes_11 : decode cX7_notes 11 = .ok (.istore_n 1, 1) := by decide +kernel
theorem dX7_notes_12 : decode cX7_notes 12 = .ok (.iload_n 1, 1) := by decide +kernel
theorem dX7_notes_13 : decode cX7_notes 13 = .ok (.sipush 130, 3) := by decide +kernel
theorem dX7_notes_16 : decode cX7_notes 16 = .ok (.if_icmp .ge 24, 3) := by decide +kernel
theorem dX7_notes_19 : decode cX7_notes 19 = .ok (.aload_n 0, 1) := by decide +kernel
theorem dX7_notes_20 : decode cX7_notes 20 = .ok (.getfield 22, 3) := by decide +kernel
theorem dX7_notes_23 : decode cX7_notes 23 = .ok (.iload_n 1, 1) := by decide +kernel
theorem dX7_notes_24 : decode cX7_notes 24 = .ok (.bipush 13, 2) := by decide +kernel
theorem dX7_notes_26 : decode cX7_notes 26 = .ok (.isub, 1) := by decide +kernel
theorem dX7_notes_27 : decode cX7_notes 27 = .ok (.aload_n 0, 1) := by decide +kernel
theorem dX7_notes_28 : decode cX7_notes 28 = .ok (.getfield 22, 3) := by decide +kernel
theorem dX7_notes_31 : decode cX7_notes 31 = .ok (.iload_n 1, 1) := by decide +kernel
theorem dX7_notes_32 : decode cX7_notes 32 = .ok (.iaload, 1) := by decide +kernel
theorem dX7_notes_33 : decode cX7_notes 33 = .ok (.iastore, 1) := by decide +kernel
theorem dX7_notes_34 : decode cX7_notes 34 = .ok (.iinc 1 1, 3) := by decide +kernel
theorem dX7_notes_37 : decode cX7_notes 37 = .ok (.goto (-25), 3) := by decide +kernel
theorem dX7_notes_40 : decode cX7_notes 40 = .ok (.aload_n 0, 1) := by decide +kernel
theorem dX7_notes_41 : decode cX7_notes 41 = .ok (.bipush 9, 2) := by decide +kernel
theorem dX7_notes_43 : decode cX7_notes 43 = .ok (.putfield 122, 3) := by decide +kernel
theorem dX7_notes_46 : decode cX7_notes 46 = .ok (.aload_n 0, 1) := by decide +kernel
theorem dX7_notes_47 : decode cX7_notes 47 = .ok (.getfield 22, 3) := by decide +kernel
theorem dX7_notes_50 : decode cX7_notes 50 = .ok (.bipush 13, 2) := by decide +kernel
theorem dX7_notes_52 : decode cX7_notes 52 = .ok (.aload_n 0, 1) := by decide +kernel
theorem dX7_notes_53 : decode cX7_notes 53 = .ok (.getfield 122, 3) := by decide +kernel
theorem dX7_notes_56 : decode cX7_notes 56 = .ok (.imul, 1) := by decide +kernel
theorem dX7_notes_57 : decode cX7_notes 57 = .ok (.aload_n 0, 1) := by decide +kernel
theorem dX7_notes_58 : decode cX7_notes 58 = .ok (.getfield 119, 3) := by decide +kernel
theorem dX7_notes_61 : decode cX7_notes 61 = .ok (.iastore, 1) := by decide +kernel
theorem dX7_notes_62 : decode cX7_notes 62 = .ok (.iconst 0, 1) := by decide +kernel
theorem dX7_notes_63 : decode cX7_notes 63 = .ok (.istore_n 1, 1) := by decide +kernel
theorem dX7_notes_64 : decode cX7_notes 64 = .ok (.iload_n 1, 1) := by decide +kernel
theorem dX7_notes_65 : decode cX7_notes 65 = .ok (.bipush 12, 2) := by decide +kernel
theorem dX7_notes_67 : decode cX7_notes 67 = .ok (.if_icmp .ge 31, 3) := by decide +kernel
theorem dX7_notes_70 : decode cX7_notes 70 = .ok (.aload_n 0, 1) := by decide +kernel
theorem dX7_notes_71 : decode cX7_notes 71 = .ok (.getfield 22, 3) := by decide +kernel
theorem dX7_notes_74 : decode cX7_notes 74 = .ok (.bipush 13, 2) := by decide +kernel
theorem dX7_notes_76 : decode cX7_notes 76 = .ok (.aload_n 0, 1) := by decide +kernel
theorem dX7_notes_77 : decode cX7_notes 77 = .ok (.getfield 122, 3) := by decide +kernel
theorem dX7_notes_80 : decode cX7_notes 80 = .ok (.imul, 1) := by decide +kernel
theorem dX7_notes_81 : decode cX7_notes 81 = .ok (.iconst 1, 1) := by decide +kernel
theorem dX7_notes_82 : decode cX7_notes 82 = .ok (.iadd, 1) := by decide +kernel
theorem dX7_notes_83 : decode cX7_notes 83 = .ok (.iload_n 1, 1) := by decide +kernel
theorem dX7_notes_84 : decode cX7_notes 84 = .ok (.iadd, 1) := by decide +kernel
theorem dX7_notes_85 : decode cX7_notes 85 = .ok (.aload_n 0, 1) := by decide +kernel
theorem dX7_notes_86 : decode cX7_notes 86 = .ok (.getfield 19, 3) := by decide +kernel
theorem dX7_notes_89 : decode cX7_notes 89 = .ok (.iload_n 1, 1) := by decide +kernel
theorem dX7_notes_90 : decode cX7_notes 90 = .ok (.iaload, 1) := by decide +kernel
theorem dX7_notes_91 : decode cX7_notes 91 = .ok (.iastore, 1) := by decide +kernel
theorem dX7_notes_92 : decode cX7_notes 92 = .ok (.iinc 1 1, 3) := by decide +kernel
theorem dX7_notes_95 : decode cX7_notes 95 = .ok (.goto (-31), 3) := by decide +kernel
theorem dX7_notes_98 : decode cX7_notes 98 = .ok (.aload_n 0, 1) := by decide +kernel
theorem dX7_notes_99 : decode cX7_notes 99 = .ok (.dup, 1) := by decide +kernel
theorem dX7_notes_100 : decode cX7_notes 100 = .ok (.getfield 122, 3) := by decide +kernel
theorem dX7_notes_103 : decode cX7_notes 103 = .ok (.iconst 1, 1) := by decide +kernel
theorem dX7_notes_104 : decode cX7_notes 104 = .ok (.iadd, 1) := by decide +kernel
theorem dX7_notes_105 : decode cX7_notes 105 = .ok (.putfield 122, 3) := by decide +kernel
theorem dX7_notes_108 : decode cX7_notes 108 = .ok (.return_, 1) := by decide +kernel
theorem dX7_does_0 : decode cX7_does 0 = .ok (.aload_n 0, 1) := by decide +kernel
theorem dX7_does_1 : decode cX7_does 1 = .ok (.iload_n 1, 1) := by decide +kernel
theorem dX7_does_2 : decode cX7_does 2 = .ok (.invokevirtual 147, 3) := by decide +kernel
theorem dX7_does_5 : decode cX7_does 5 = .ok (.ifCond .eq 21, 3) := by decide +kernel
theorem dX7_does_8 : decode cX7_does 8 = .ok (.iload_n 2, 1) := by decide +kernel
theorem dX7_does_9 : decode cX7_does 9 = .ok (.i2l, 1) := by decide +kernel
theorem dX7_does_10 : decode cX7_does 10 = .ok (.lconst 0, 1) := by decide +kernel
theorem dX7_does_11 : decode cX7_does 11 = .ok (.aload_n 0, 1) := by decide +kernel
theorem dX7_does_12 : decode cX7_does 12 = .ok (.getfield 16, 3) := by decide +kernel
theorem dX7_does_15 : decode cX7_does 15 = .ok (.iconst 5, 1) := by decide +kernel
theorem dX7_does_16 : decode cX7_does 16 = .ok (.iaload, 1) := by decide +kernel
theorem dX7_does_17 : decode cX7_does 17 = .ok (.iconst 1, 1) := by decide +kernel
theorem dX7_does_18 : decode cX7_does 18 = .ok (.isub, 1) := by decide +kernel
theorem dX7_does_19 : decode cX7_does 19 = .ok (.i2l, 1) := by decide +kernel
theorem dX7_does_20 : decode cX7_does 20 = .ok (.invokestatic 51, 3) := by decide +kernel
theorem dX7_does_23 : decode cX7_does 23 = .ok (.ifCond .ne 5, 3) := by decide +kernel
theorem dX7_does_26 : decode cX7_does 26 = .ok (.iconst (-1), 1) := by decide +kernel
theorem dX7_does_27 : decode cX7_does 27 = .ok (.ireturn, 1) := by decide +kernel
theorem dX7_does_28 : decode cX7_does 28 = .ok (.aload_n 0, 1) := by decide +kernel
theorem dX7_does_29 : decode cX7_does 29 = .ok (.getfield 119, 3) := by decide +kernel
theorem dX7_does_32 : decode cX7_does 32 = .ok (.bipush 6, 2) := by decide +kernel
theorem dX7_does_34 : decode cX7_does 34 = .ok (.if_icmp .ne 6, 3) := by decide +kernel
theorem dX7_does_37 : decode cX7_does 37 = .ok (.bipush (-3), 2) := by decide +kernel
theorem dX7_does_39 : decode cX7_does 39 = .ok (.ireturn, 1) := by decide +kernel
theorem dX7_does_40 : decode cX7_does 40 = .ok (.aload_n 0, 1) := by decide +kernel
theorem dX7_does_41 : decode cX7_does 41 = .ok (.invokevirtual 150, 3) := by decide +kernel
theorem dX7_does_44 : decode cX7_does 44 = .ok (.aload_n 0, 1) := by decide +kernel
theorem dX7_does_45 : decode cX7_does 45 = .ok (.iload_n 1, 1) := by decide +kernel
theorem dX7_does_46 : decode cX7_does 46 = .ok (.iload_n 2, 1) := by decide +kernel
theorem dX7_does_47 : decode cX7_does 47 = .ok (.invokevirtual 153, 3) := by decide +kernel
theorem dX7_does_50 : decode cX7_does 50 = .ok (.aload_n 0, 1) := by decide +kernel
theorem dX7_does_51 : decode cX7_does 51 = .ok (.getfield 119, 3) := by decide +kernel
theorem dX7_does_54 : decode cX7_does 54 = .ok (.ireturn, 1) := by decide +kernel
theorem dX7_adds_0 : decode cX7_adds 0 = .ok (.aload_n 0, 1) := by decide +kernel
theorem dX7_adds_1 : decode cX7_adds 1 = .ok (.getfield 19, 3) := by decide +kernel
theorem dX7_adds_4 : decode cX7_adds 4 = .ok (.iconst 2, 1) := by decide +kernel
theorem dX7_adds_5 : decode cX7_adds 5 = .ok (.aload_n 0, 1) := by decide +kernel
theorem dX7_adds_6 : decode cX7_adds 6 = .ok (.getfield 119, 3) := by decide +kernel
theorem dX7_adds_9 : decode cX7_adds 9 = .ok (.imul, 1) := by decide +kernel
theorem dX7_adds_10 : decode cX7_adds 10 = .ok (.iload_n 1, 1) := by decide +kernel
theorem dX7_adds_11 : decode cX7_adds 11 = .ok (.iastore, 1) := by decide +kernel
theorem dX7_adds_12 : decode cX7_adds 12 = .ok (.aload_n 0, 1) := by decide +kernel
theorem dX7_adds_13 : decode cX7_adds 13 = .ok (.getfield 19, 3) := by decide +kernel
theorem dX7_adds_16 : decode cX7_adds 16 = .ok (.iconst 2, 1) := by decide +kernel
theorem dX7_adds_17 : decode cX7_adds 17 = .ok (.aload_n 0, 1) := by decide +kernel
theorem dX7_adds_18 : decode cX7_adds 18 = .ok (.getfield 119, 3) := by decide +kernel
theorem dX7_adds_21 : decode cX7_adds 21 = .ok (.imul, 1) := by decide +kernel
theorem dX7_adds_22 : decode cX7_adds 22 = .ok (.iconst 1, 1) := by decide +kernel
theorem dX7_adds_23 : decode cX7_adds 23 = .ok (.iadd, 1) := by decide +kernel
theorem dX7_adds_24 : decode cX7_adds 24 = .ok (.iload_n 2, 1) := by decide +kernel
theorem dX7_adds_25 : decode cX7_adds 25 = .ok (.iastore, 1) := by decide +kernel
theorem dX7_adds_26 : decode cX7_adds 26 = .ok (.aload_n 0, 1) := by decide +kernel
theorem dX7_adds_27 : decode cX7_adds 27 = .ok (.dup, 1) := by decide +kernel
theorem dX7_adds_28 : decode cX7_adds 28 = .ok (.getfield 119, 3) := by decide +kernel
theorem dX7_adds_31 : decode cX7_adds 31 = .ok (.iconst 1, 1) := by decide +kernel
theorem dX7_adds_32 : decode cX7_adds 32 = .ok (.iadd, 1) := by decide +kernel
theorem dX7_adds_33 : decode cX7_adds 33 = .ok (.putfield 119, 3) := by decide +kernel
theorem dX7_adds_36 : decode cX7_adds 36 = .ok (.return_, 1) := by decide +kernel
theorem dX7_takes_0 : decode cX7_takes 0 = .ok (.iload_n 1, 1) := by decide +kernel
theorem dX7_takes_1 : decode cX7_takes 1 = .ok (.i2l, 1) := by decide +kernel
theorem dX7_takes_2 : decode cX7_takes 2 = .ok (.lconst 0, 1) := by decide +kernel
theorem dX7_takes_3 : decode cX7_takes 3 = .ok (.aload_n 0, 1) := by decide +kernel
theorem dX7_takes_4 : decode cX7_takes 4 = .ok (.getfield 119, 3) := by decide +kernel
theorem dX7_takes_7 : decode cX7_takes 7 = .ok (.iconst 1, 1) := by decide +kernel
theorem dX7_takes_8 : decode cX7_takes 8 = .ok (.isub, 1) := by decide +kernel
theorem dX7_takes_9 : decode cX7_takes 9 = .ok (.i2l, 1) := by decide +kernel
theorem dX7_takes_10 : decode cX7_takes 10 = .ok (.invokestatic 51, 3) := by decide +kernel
theorem dX7_takes_13 : decode cX7_takes 13 = .ok (.ifCond .ne 5, 3) := by decide +kernel
theorem dX7_takes_16 : decode cX7_takes 16 = .ok (.iconst (-1), 1) := by decide +kernel
theorem dX7_takes_17 : decode cX7_takes 17 = .ok (.ireturn, 1) := by decide +kernel
theorem dX7_takes_18 : decode cX7_takes 18 = .ok (.aload_n 0, 1) := by decide +kernel
theorem dX7_takes_19 : decode cX7_takes 19 = .ok (.invokevirtual 150, 3) := by decide +kernel
theorem dX7_takes_22 : decode cX7_takes 22 = .ok (.iconst 2, 1) := by decide +kernel
theorem dX7_takes_23 : decode cX7_takes 23 = .ok (.iload_n 1, 1) := by decide +kernel
theorem dX7_takes_24 : decode cX7_takes 24 = .ok (.imul, 1) := by decide +kernel
theorem dX7_takes_25 : decode cX7_takes 25 = .ok (.iconst 2, 1) := by decide +kernel
theorem dX7_takes_26 : decode cX7_takes 26 = .ok (.iadd, 1) := by decide +kernel
theorem dX7_takes_27 : decode cX7_takes 27 = .ok (.istore_n 2, 1) := by decide +kernel
theorem dX7_takes_28 : decode cX7_takes 28 = .ok (.iload_n 2, 1) := by decide +kernel
theorem dX7_takes_29 : decode cX7_takes 29 = .ok (.iconst 2, 1) := by decide +kernel
theorem dX7_takes_30 : decode cX7_takes 30 = .ok (.aload_n 0, 1) := by decide +kernel
theorem dX7_takes_31 : decode cX7_takes 31 = .ok (.getfield 119, 3) := by decide +kernel
theorem dX7_takes_34 : decode cX7_takes 34 = .ok (.imul, 1) := by decide +kernel
theorem dX7_takes_35 : decode cX7_takes 35 = .ok (.if_icmp .ge 23, 3) := by decide +kernel
theorem dX7_takes_38 : decode cX7_takes 38 = .ok (.aload_n 0, 1) := by decide +kernel
theorem dX7_takes_39 : decode cX7_takes 39 = .ok (.getfield 19, 3) := by decide +kernel
theorem dX7_takes_42 : decode cX7_takes 42 = .ok (.iload_n 2, 1) := by decide +kernel
theorem dX7_takes_43 : decode cX7_takes 43 = .ok (.iconst 2, 1) := by decide +kernel
theorem dX7_takes_44 : decode cX7_takes 44 = .ok (.isub, 1) := by decide +kernel
theorem dX7_takes_45 : decode cX7_takes 45 = .ok (.aload_n 0, 1) := by decide +kernel
theorem dX7_takes_46 : decode cX7_takes 46 = .ok (.getfield 19, 3) := by decide +kernel
theorem dX7_takes_49 : decode cX7_takes 49 = .ok (.iload_n 2, 1) := by decide +kernel
theorem dX7_takes_50 : decode cX7_takes 50 = .ok (.iaload, 1) := by decide +kernel
theorem dX7_takes_51 : decode cX7_takes 51 = .ok (.iastore, 1) := by decide +kernel
theorem dX7_takes_52 : decode cX7_takes 52 = .ok (.iinc 2 1, 3) := by decide +kernel
theorem dX7_takes_55 : decode cX7_takes 55 = .ok (.goto (-27), 3) := by decide +kernel
theorem dX7_takes_58 : decode cX7_takes 58 = .ok (.aload_n 0, 1) := by decide +kernel
theorem dX7_takes_59 : decode cX7_takes 59 = .ok (.dup, 1) := by decide +kernel
theorem dX7_takes_60 : decode cX7_takes 60 = .ok (.getfield 119, 3) := by decide +kernel
theorem dX7_takes_63 : decode cX7_takes 63 = .ok (.iconst 1, 1) := by decide +kernel
theorem dX7_takes_64 : decode cX7_takes 64 = .ok (.isub, 1) := by decide +kernel
theorem dX7_takes_65 : decode cX7_takes 65 = .ok (.putfield 119, 3) := by decide +kernel
theorem dX7_takes_68 : decode cX7_takes 68 = .ok (.aload_n 0, 1) := by decide +kernel
theorem dX7_takes_69 : decode cX7_takes 69 = .ok (.getfield 119, 3) := by decide +kernel
theorem dX7_takes_72 : decode cX7_takes 72 = .ok (.ireturn, 1) := by decide +kernel
theorem dX7_done_0 : decode cX7_done 0 = .ok (.iload_n 1, 1) := by decide +kernel
theorem dX7_done_1 : decode cX7_done 1 = .ok (.i2l, 1) := by decide +kernel
theorem dX7_done_2 : decode cX7_done 2 = .ok (.lconst 0, 1) := by decide +kernel
theorem dX7_done_3 : decode cX7_done 3 = .ok (.aload_n 0, 1) := by decide +kernel
theorem dX7_done_4 : decode cX7_done 4 = .ok (.getfield 119, 3) := by decide +kernel
theorem dX7_done_7 : decode cX7_done 7 = .ok (.iconst 1, 1) := by decide +kernel
theorem dX7_done_8 : decode cX7_done 8 = .ok (.isub, 1) := by decide +kernel
theorem dX7_done_9 : decode cX7_done 9 = .ok (.i2l, 1) := by decide +kernel
theorem dX7_done_10 : decode cX7_done 10 = .ok (.invokestatic 51, 3) := by decide +kernel
theorem dX7_done_13 : decode cX7_done 13 = .ok (.ifCond .eq 26, 3) := by decide +kernel
theorem dX7_done_16 : decode cX7_done 16 = .ok (.iload_n 2, 1) := by decide +kernel
theorem dX7_done_17 : decode cX7_done 17 = .ok (.i2l, 1) := by decide +kernel
theorem dX7_done_18 : decode cX7_done 18 = .ok (.lconst 0, 1) := by decide +kernel
theorem dX7_done_19 : decode cX7_done 19 = .ok (.lconst 1, 1) := by decide +kernel
theorem dX7_done_20 : decode cX7_done 20 = .ok (.invokestatic 51, 3) := by decide +kernel
theorem dX7_done_23 : decode cX7_done 23 = .ok (.ifCond .eq 16, 3) := by decide +kernel
theorem dX7_done_26 : decode cX7_done 26 = .ok (.aload_n 0, 1) := by decide +kernel
theorem dX7_done_27 : decode cX7_done 27 = .ok (.getfield 19, 3) := by decide +kernel
theorem dX7_done_30 : decode cX7_done 30 = .ok (.iconst 2, 1) := by decide +kernel
theorem dX7_done_31 : decode cX7_done 31 = .ok (.iload_n 1, 1) := by decide +kernel
theorem dX7_done_32 : decode cX7_done 32 = .ok (.imul, 1) := by decide +kernel
theorem dX7_done_33 : decode cX7_done 33 = .ok (.iload_n 2, 1) := by decide +kernel
theorem dX7_done_34 : decode cX7_done 34 = .ok (.iadd, 1) := by decide +kernel
theorem dX7_done_35 : decode cX7_done 35 = .ok (.iaload, 1) := by decide +kernel
theorem dX7_done_36 : decode cX7_done 36 = .ok (.goto 4, 3) := by decide +kernel
theorem dX7_done_39 : decode cX7_done 39 = .ok (.iconst (-1), 1) := by decide +kernel
theorem dX7_done_40 : decode cX7_done 40 = .ok (.ireturn, 1) := by decide +kernel
theorem dX7_undo_0 : decode cX7_undo 0 = .ok (.aload_n 0, 1) := by decide +kernel
theorem dX7_undo_1 : decode cX7_undo 1 = .ok (.getfield 122, 3) := by decide +kernel
theorem dX7_undo_4 : decode cX7_undo 4 = .ok (.ifCond .ne 6, 3) := by decide +kernel
theorem dX7_undo_7 : decode cX7_undo 7 = .ok (.bipush (-2), 2) := by decide +kernel
theorem dX7_undo_9 : decode cX7_undo 9 = .ok (.ireturn, 1) := by decide +kernel
theorem dX7_undo_10 : decode cX7_undo 10 = .ok (.aload_n 0, 1) := by decide +kernel
theorem dX7_undo_11 : decode cX7_undo 11 = .ok (.dup, 1) := by decide +kernel
theorem dX7_undo_12 : decode cX7_undo 12 = .ok (.getfield 122, 3) := by decide +kernel
theorem dX7_undo_15 : decode cX7_undo 15 = .ok (.iconst 1, 1) := by decide +kernel
theorem dX7_undo_16 : decode cX7_undo 16 = .ok (.isub, 1) := by decide +kernel
theorem dX7_undo_17 : decode cX7_undo 17 = .ok (.putfield 122, 3) := by decide +kernel
theorem dX7_undo_20 : decode cX7_undo 20 = .ok (.aload_n 0, 1) := by decide +kernel
theorem dX7_undo_21 : decode cX7_undo 21 = .ok (.aload_n 0, 1) := by decide +kernel
theorem dX7_undo_22 : decode cX7_undo 22 = .ok (.getfield 22, 3) := by decide +kernel
theorem dX7_undo_25 : decode cX7_undo 25 = .ok (.bipush 13, 2) := by decide +kernel
theorem dX7_undo_27 : decode cX7_undo 27 = .ok (.aload_n 0, 1) := by decide +kernel
theorem dX7_undo_28 : decode cX7_undo 28 = .ok (.getfield 122, 3) := by decide +kernel
theorem dX7_undo_31 : decode cX7_undo 31 = .ok (.imul, 1) := by decide +kernel
theorem dX7_undo_32 : decode cX7_undo 32 = .ok (.iaload, 1) := by decide +kernel
theorem dX7_undo_33 : decode cX7_undo 33 = .ok (.putfield 119, 3) := by decide +kernel
theorem dX7_undo_36 : decode cX7_undo 36 = .ok (.iconst 0, 1) := by decide +kernel
theorem dX7_undo_37 : decode cX7_undo 37 = .ok (.istore_n 1, 1) := by decide +kernel
theorem dX7_undo_38 : decode cX7_undo 38 = .ok (.iload_n 1, 1) := by decide +kernel
theorem dX7_undo_39 : decode cX7_undo 39 = .ok (.bipush 12, 2) := by decide +kernel
theorem dX7_undo_41 : decode cX7_undo 41 = .ok (.if_icmp .ge 31, 3) := by decide +kernel
theorem dX7_undo_44 : decode cX7_undo 44 = .ok (.aload_n 0, 1) := by decide +kernel
theorem dX7_undo_45 : decode cX7_undo 45 = .ok (.getfield 19, 3) := by decide +kernel
theorem dX7_undo_48 : decode cX7_undo 48 = .ok (.iload_n 1, 1) := by decide +kernel
theorem dX7_undo_49 : decode cX7_undo 49 = .ok (.aload_n 0, 1) := by decide +kernel
theorem dX7_undo_50 : decode cX7_undo 50 = .ok (.getfield 22, 3) := by decide +kernel
theorem dX7_undo_53 : decode cX7_undo 53 = .ok (.bipush 13, 2) := by decide +kernel
theorem dX7_undo_55 : decode cX7_undo 55 = .ok (.aload_n 0, 1) := by decide +kernel
theorem dX7_undo_56 : decode cX7_undo 56 = .ok (.getfield 122, 3) := by decide +kernel
theorem dX7_undo_59 : decode cX7_undo 59 = .ok (.imul, 1) := by decide +kernel
theorem dX7_undo_60 : decode cX7_undo 60 = .ok (.iconst 1, 1) := by decide +kernel
theorem dX7_undo_61 : decode cX7_undo 61 = .ok (.iadd, 1) := by decide +kernel
theorem dX7_undo_62 : decode cX7_undo 62 = .ok (.iload_n 1, 1) := by decide +kernel
theorem dX7_undo_63 : decode cX7_undo 63 = .ok (.iadd, 1) := by decide +kernel
theorem dX7_undo_64 : decode cX7_undo 64 = .ok (.iaload, 1) := by decide +kernel
theorem dX7_undo_65 : decode cX7_undo 65 = .ok (.iastore, 1) := by decide +kernel
theorem dX7_undo_66 : decode cX7_undo 66 = .ok (.iinc 1 1, 3) := by decide +kernel
theorem dX7_undo_69 : decode cX7_undo 69 = .ok (.goto (-31), 3) := by decide +kernel
theorem dX7_undo_72 : decode cX7_undo 72 = .ok (.aload_n 0, 1) := by decide +kernel
theorem dX7_undo_73 : decode cX7_undo 73 = .ok (.getfield 122, 3) := by decide +kernel
theorem dX7_undo_76 : decode cX7_undo 76 = .ok (.ireturn, 1) := by decide +kernel
theorem dX7_beginning_0 : decode cX7_beginning 0 = .ok (.aload_n 0, 1) := by decide +kernel
theorem dX7_beginning_1 : decode cX7_beginning 1 = .ok (.aload_n 0, 1) := by decide +kernel
theorem dX7_beginning_2 : decode cX7_beginning 2 = .ok (.getfield 16, 3) := by decide +kernel
theorem dX7_beginning_5 : decode cX7_beginning 5 = .ok (.iconst 2, 1) := by decide +kernel
theorem dX7_beginning_6 : decode cX7_beginning 6 = .ok (.iaload, 1) := by decide +kernel
theorem dX7_beginning_7 : decode cX7_beginning 7 = .ok (.invokevirtual 132, 3) := by decide +kernel
theorem dX7_beginning_10 : decode cX7_beginning 10 = .ok (.ifCond .eq 12, 3) := by decide +kernel
theorem dX7_beginning_13 : decode cX7_beginning 13 = .ok (.aload_n 0, 1) := by decide +kernel
theorem dX7_beginning_14 : decode cX7_beginning 14 = .ok (.getfield 16, 3) := by decide +kernel
theorem dX7_beginning_17 : decode cX7_beginning 17 = .ok (.iconst 2, 1) := by decide +kernel
theorem dX7_beginning_18 : decode cX7_beginning 18 = .ok (.iaload, 1) := by decide +kernel
theorem dX7_beginning_19 : decode cX7_beginning 19 = .ok (.goto 4, 3) := by decide +kernel
theorem dX7_beginning_22 : decode cX7_beginning 22 = .ok (.iconst 0, 1) := by decide +kernel
theorem dX7_beginning_23 : decode cX7_beginning 23 = .ok (.ireturn, 1) := by decide +kernel
theorem dX7_figure_0 : decode cX7_figure 0 = .ok (.iload_n 0, 1) := by decide +kernel
theorem dX7_figure_1 : decode cX7_figure 1 = .ok (.istore_n 3, 1) := by decide +kernel
theorem dX7_figure_2 : decode cX7_figure 2 = .ok (.iload_n 2, 1) := by decide +kernel
theorem dX7_figure_3 : decode cX7_figure 3 = .ok (.iconst 1, 1) := by decide +kernel
theorem dX7_figure_4 : decode cX7_figure 4 = .ok (.isub, 1) := by decide +kernel
theorem dX7_figure_5 : decode cX7_figure 5 = .ok (.istore 4, 2) := by decide +kernel
theorem dX7_figure_7 : decode cX7_figure 7 = .ok (.iload 4, 2) := by decide +kernel
theorem dX7_figure_9 : decode cX7_figure 9 = .ok (.iload_n 1, 1) := by decide +kernel
theorem dX7_figure_10 : decode cX7_figure 10 = .ok (.if_icmp .le 13, 3) := by decide +kernel
theorem dX7_figure_13 : decode cX7_figure 13 = .ok (.iload_n 3, 1) := by decide +kernel
theorem dX7_figure_14 : decode cX7_figure 14 = .ok (.iconst 3, 1) := by decide +kernel
theorem dX7_figure_15 : decode cX7_figure 15 = .ok (.idiv, 1) := by decide +kernel
theorem dX7_figure_16 : decode cX7_figure 16 = .ok (.istore_n 3, 1) := by decide +kernel
theorem dX7_figure_17 : decode cX7_figure 17 = .ok (.iinc 4 (-1), 3) := by decide +kernel
theorem dX7_figure_20 : decode cX7_figure 20 = .ok (.goto (-13), 3) := by decide +kernel
theorem dX7_figure_23 : decode cX7_figure 23 = .ok (.iload_n 3, 1) := by decide +kernel
theorem dX7_figure_24 : decode cX7_figure 24 = .ok (.iconst 3, 1) := by decide +kernel
theorem dX7_figure_25 : decode cX7_figure 25 = .ok (.irem, 1) := by decide +kernel
theorem dX7_figure_26 : decode cX7_figure 26 = .ok (.ireturn, 1) := by decide +kernel
theorem dX7_goes_0 : decode cX7_goes 0 = .ok (.iload_n 2, 1) := by decide +kernel
theorem dX7_goes_1 : decode cX7_goes 1 = .ok (.istore_n 3, 1) := by decide +kernel
theorem dX7_goes_2 : decode cX7_goes 2 = .ok (.iconst 0, 1) := by decide +kernel
theorem dX7_goes_3 : decode cX7_goes 3 = .ok (.istore 4, 2) := by decide +kernel
theorem dX7_goes_5 : decode cX7_goes 5 = .ok (.iload 4, 2) := by decide +kernel
theorem dX7_goes_7 : decode cX7_goes 7 = .ok (.aload_n 0, 1) := by decide +kernel
theorem dX7_goes_8 : decode cX7_goes 8 = .ok (.getfield 16, 3) := by decide +kernel
theorem dX7_goes_11 : decode cX7_goes 11 = .ok (.iconst 0, 1) := by decide +kernel
theorem dX7_goes_12 : decode cX7_goes 12 = .ok (.iaload, 1) := by decide +kernel
theorem dX7_goes_13 : decode cX7_goes 13 = .ok (.if_icmp .ge 213, 3) := by decide +kernel
theorem dX7_goes_16 : decode cX7_goes 16 = .ok (.iload 4, 2) := by decide +kernel
theorem dX7_goes_18 : decode cX7_goes 18 = .ok (.ifCond .le 91, 3) := by decide +kernel
theorem dX7_goes_21 : decode cX7_goes 21 = .ok (.iconst 0, 1) := by decide +kernel
theorem dX7_goes_22 : decode cX7_goes 22 = .ok (.istore 5, 2) := by decide +kernel
theorem dX7_goes_24 : decode cX7_goes 24 = .ok (.iconst 0, 1) := by decide +kernel
theorem dX7_goes_25 : decode cX7_goes 25 = .ok (.istore 6, 2) := by decide +kernel
theorem dX7_goes_27 : decode cX7_goes 27 = .ok (.iload 6, 2) := by decide +kernel
theorem dX7_goes_29 : decode cX7_goes 29 = .ok (.aload_n 0, 1) := by decide +kernel
theorem dX7_goes_30 : decode cX7_goes 30 = .ok (.getfield 16, 3) := by decide +kernel
theorem dX7_goes_33 : decode cX7_goes 33 = .ok (.iconst 3, 1) := by decide +kernel
theorem dX7_goes_34 : decode cX7_goes 34 = .ok (.iaload, 1) := by decide +kernel
theorem dX7_goes_35 : decode cX7_goes 35 = .ok (.if_icmp .ge 47, 3) := by decide +kernel
theorem dX7_goes_38 : decode cX7_goes 38 = .ok (.aload_n 0, 1) := by decide +kernel
theorem dX7_goes_39 : decode cX7_goes 39 = .ok (.getfield 16, 3) := by decide +kernel
theorem dX7_goes_42 : decode cX7_goes 42 = .ok (.bipush 38, 2) := by decide +kernel
theorem dX7_goes_44 : decode cX7_goes 44 = .ok (.iconst 3, 1) := by decide +kernel
theorem dX7_goes_45 : decode cX7_goes 45 = .ok (.iload 6, 2) := by decide +kernel
theorem dX7_goes_47 : decode cX7_goes 47 = .ok (.imul, 1) := by decide +kernel
theorem dX7_goes_48 : decode cX7_goes 48 = .ok (.iadd, 1) := by decide +kernel
theorem dX7_goes_49 : decode cX7_goes 49 = .ok (.iaload, 1) := by decide +kernel
theorem dX7_goes_50 : decode cX7_goes 50 = .ok (.iload 4, 2) := by decide +kernel
theorem dX7_goes_52 : decode cX7_goes 52 = .ok (.iconst 1, 1) := by decide +kernel
theorem dX7_goes_53 : decode cX7_goes 53 = .ok (.isub, 1) := by decide +kernel
theorem dX7_goes_54 : decode cX7_goes 54 = .ok (.if_icmp .ne 18, 3) := by decide +kernel
theorem dX7_goes_57 : decode cX7_goes 57 = .ok (.iload_n 1, 1) := by decide +kernel
theorem dX7_goes_58 : decode cX7_goes 58 = .ok (.iload 6, 2) := by decide +kernel
theorem dX7_goes_60 : decode cX7_goes 60 = .ok (.aload_n 0, 1) := by decide +kernel
theorem dX7_goes_61 : decode cX7_goes 61 = .ok (.getfield 16, 3) := by decide +kernel
theorem dX7_goes_64 : decode cX7_goes 64 = .ok (.iconst 3, 1) := by decide +kernel
theorem dX7_goes_65 : decode cX7_goes 65 = .ok (.iaload, 1) := by decide +kernel
theorem dX7_goes_66 : decode cX7_goes 66 = .ok (.invokestatic 157, 3) := by decide +kernel
theorem dX7_goes_69 : decode cX7_goes 69 = .ok (.goto 5, 3) := by decide +kernel
theorem dX7_goes_72 : decode cX7_goes 72 = .ok (.iload 5, 2) := by decide +kernel
theorem dX7_goes_74 : decode cX7_goes 74 = .ok (.istore 5, 2) := by decide +kernel
theorem dX7_goes_76 : decode cX7_goes 76 = .ok (.iinc 6 1, 3) := by decide +kernel
theorem dX7_goes_79 : decode cX7_goes 79 = .ok (.goto (-52), 3) := by decide +kernel
theorem dX7_goes_82 : decode cX7_goes 82 = .ok (.aload_n 0, 1) := by decide +kernel
theorem dX7_goes_83 : decode cX7_goes 83 = .ok (.iload_n 3, 1) := by decide +kernel
theorem dX7_goes_84 : decode cX7_goes 84 = .ok (.iconst 2, 1) := by decide +kernel
theorem dX7_goes_85 : decode cX7_goes 85 = .ok (.iload 5, 2) := by decide +kernel
theorem dX7_goes_87 : decode cX7_goes 87 = .ok (.iadd, 1) := by decide +kernel
theorem dX7_goes_88 : decode cX7_goes 88 = .ok (.invokevirtual 128, 3) := by decide +kernel
theorem dX7_goes_91 : decode cX7_goes 91 = .ok (.istore 6, 2) := by decide +kernel
theorem dX7_goes_93 : decode cX7_goes 93 = .ok (.aload_n 0, 1) := by decide +kernel
theorem dX7_goes_94 : decode cX7_goes 94 = .ok (.iload 6, 2) := by decide +kernel
theorem dX7_goes_96 : decode cX7_goes 96 = .ok (.invokevirtual 132, 3) := by decide +kernel
theorem dX7_goes_99 : decode cX7_goes 99 = .ok (.ifCond .eq 8, 3) := by decide +kernel
theorem dX7_goes_102 : decode cX7_goes 102 = .ok (.iload 6, 2) := by decide +kernel
theorem dX7_goes_104 : decode cX7_goes 104 = .ok (.goto 4, 3) := by decide +kernel
theorem dX7_goes_107 : decode cX7_goes 107 = .ok (.iload_n 3, 1) := by decide +kernel
theorem dX7_goes_108 : decode cX7_goes 108 = .ok (.istore_n 3, 1) := by decide +kernel
theorem dX7_goes_109 : decode cX7_goes 109 = .ok (.iconst 0, 1) := by decide +kernel
theorem dX7_goes_110 : decode cX7_goes 110 = .ok (.istore 5, 2) := by decide +kernel
theorem dX7_goes_112 : decode cX7_goes 112 = .ok (.iload 5, 2) := by decide +kernel
theorem dX7_goes_114 : decode cX7_goes 114 = .ok (.aload_n 0, 1) := by decide +kernel
theorem dX7_goes_115 : decode cX7_goes 115 = .ok (.getfield 119, 3) := by decide +kernel
theorem dX7_goes_118 : decode cX7_goes 118 = .ok (.if_icmp .ge 94, 3) := by decide +kernel
theorem dX7_goes_121 : decode cX7_goes 121 = .ok (.bipush 47, 2) := by decide +kernel
theorem dX7_goes_123 : decode cX7_goes 123 = .ok (.iconst 2, 1) := by decide +kernel
theorem dX7_goes_124 : decode cX7_goes 124 = .ok (.aload_n 0, 1) := by decide +kernel
theorem dX7_goes_125 : decode cX7_goes 125 = .ok (.getfield 19, 3) := by decide +kernel
theorem dX7_goes_128 : decode cX7_goes 128 = .ok (.iconst 2, 1) := by decide +kernel
theorem dX7_goes_129 : decode cX7_goes 129 = .ok (.iload 5, 2) := by decide +kernel
theorem dX7_goes_131 : decode cX7_goes 131 = .ok (.imul, 1) := by decide +kernel
theorem dX7_goes_132 : decode cX7_goes 132 = .ok (.iconst 1, 1) := by decide +kernel
theorem dX7_goes_133 : decode cX7_goes 133 = .ok (.iadd, 1) := by decide +kernel
theorem dX7_goes_134 : decode cX7_goes 134 = .ok (.iaload, 1) := by decide +kernel
theorem dX7_goes_135 : decode cX7_goes 135 = .ok (.imul, 1) := by decide +kernel
theorem dX7_goes_136 : decode cX7_goes 136 = .ok (.iadd, 1) := by decide +kernel
theorem dX7_goes_137 : decode cX7_goes 137 = .ok (.istore 6, 2) := by decide +kernel
theorem dX7_goes_139 : decode cX7_goes 139 = .ok (.aload_n 0, 1) := by decide +kernel
theorem dX7_goes_140 : decode cX7_goes 140 = .ok (.getfield 19, 3) := by decide +kernel
theorem dX7_goes_143 : decode cX7_goes 143 = .ok (.iconst 2, 1) := by decide +kernel
theorem dX7_goes_144 : decode cX7_goes 144 = .ok (.iload 5, 2) := by decide +kernel
theorem dX7_goes_146 : decode cX7_goes 146 = .ok (.imul, 1) := by decide +kernel
theorem dX7_goes_147 : decode cX7_goes 147 = .ok (.iaload, 1) := by decide +kernel
theorem dX7_goes_148 : decode cX7_goes 148 = .ok (.iload 4, 2) := by decide +kernel
theorem dX7_goes_150 : decode cX7_goes 150 = .ok (.if_icmp .ne 34, 3) := by decide +kernel
theorem dX7_goes_153 : decode cX7_goes 153 = .ok (.aload_n 0, 1) := by decide +kernel
theorem dX7_goes_154 : decode cX7_goes 154 = .ok (.getfield 16, 3) := by decide +kernel
theorem dX7_goes_157 : decode cX7_goes 157 = .ok (.iload 6, 2) := by decide +kernel
theorem dX7_goes_159 : decode cX7_goes 159 = .ok (.iaload, 1) := by decide +kernel
theorem dX7_goes_160 : decode cX7_goes 160 = .ok (.iload_n 3, 1) := by decide +kernel
theorem dX7_goes_161 : decode cX7_goes 161 = .ok (.if_icmp .ne 23, 3) := by decide +kernel
theorem dX7_goes_164 : decode cX7_goes 164 = .ok (.aload_n 0, 1) := by decide +kernel
theorem dX7_goes_165 : decode cX7_goes 165 = .ok (.aload_n 0, 1) := by decide +kernel
theorem dX7_goes_166 : decode cX7_goes 166 = .ok (.getfield 16, 3) := by decide +kernel
theorem dX7_goes_169 : decode cX7_goes 169 = .ok (.iload 6, 2) := by decide +kernel
theorem dX7_goes_171 : decode cX7_goes 171 = .ok (.iconst 1, 1) := by decide +kernel
theorem dX7_goes_172 : decode cX7_goes 172 = .ok (.iadd, 1) := by decide +kernel
theorem dX7_goes_173 : decode cX7_goes 173 = .ok (.iaload, 1) := by decide +kernel
theorem dX7_goes_174 : decode cX7_goes 174 = .ok (.invokevirtual 132, 3) := by decide +kernel
theorem dX7_goes_177 : decode cX7_goes 177 = .ok (.ifCond .eq 7, 3) := by decide +kernel
theorem dX7_goes_180 : decode cX7_goes 180 = .ok (.iconst 1, 1) := by decide +kernel
theorem dX7_goes_181 : decode cX7_goes 181 = .ok (.goto 4, 3) := by decide +kernel
theorem dX7_goes_184 : decode cX7_goes 184 = .ok (.iconst 0, 1) := by decide +kernel
theorem dX7_goes_185 : decode cX7_goes 185 = .ok (.istore 7, 2) := by decide +kernel
theorem dX7_goes_187 : decode cX7_goes 187 = .ok (.iload 7, 2) := by decide +kernel
theorem dX7_goes_189 : decode cX7_goes 189 = .ok (.ifCond .eq 15, 3) := by decide +kernel
theorem dX7_goes_192 : decode cX7_goes 192 = .ok (.aload_n 0, 1) := by decide +kernel
theorem dX7_goes_193 : decode cX7_goes 193 = .ok (.getfield 16, 3) := by decide +kernel
theorem dX7_goes_196 : decode cX7_goes 196 = .ok (.iload 6, 2) := by decide +kernel
theorem dX7_goes_198 : decode cX7_goes 198 = .ok (.iconst 1, 1) := by decide +kernel
theorem dX7_goes_199 : decode cX7_goes 199 = .ok (.iadd, 1) := by decide +kernel
theorem dX7_goes_200 : decode cX7_goes 200 = .ok (.iaload, 1) := by decide +kernel
theorem dX7_goes_201 : decode cX7_goes 201 = .ok (.goto 4, 3) := by decide +kernel
theorem dX7_goes_204 : decode cX7_goes 204 = .ok (.iload_n 3, 1) := by decide +kernel
theorem dX7_goes_205 : decode cX7_goes 205 = .ok (.istore_n 3, 1) := by decide +kernel
theorem dX7_goes_206 : decode cX7_goes 206 = .ok (.iinc 5 1, 3) := by decide +kernel
theorem dX7_goes_209 : decode cX7_goes 209 = .ok (.goto (-97), 3) := by decide +kernel
theorem dX7_goes_212 : decode cX7_goes 212 = .ok (.aload_n 0, 1) := by decide +kernel
theorem dX7_goes_213 : decode cX7_goes 213 = .ok (.getfield 25, 3) := by decide +kernel
theorem dX7_goes_216 : decode cX7_goes 216 = .ok (.iload 4, 2) := by decide +kernel
theorem dX7_goes_218 : decode cX7_goes 218 = .ok (.iload_n 3, 1) := by decide +kernel
theorem dX7_goes_219 : decode cX7_goes 219 = .ok (.iastore, 1) := by decide +kernel
theorem dX7_goes_220 : decode cX7_goes 220 = .ok (.iinc 4 1, 3) := by decide +kernel
theorem dX7_goes_223 : decode cX7_goes 223 = .ok (.goto (-218), 3) := by decide +kernel
theorem dX7_goes_226 : decode cX7_goes 226 = .ok (.return_, 1) := by decide +kernel
theorem dX7_word_0 : decode cX7_word 0 = .ok (.iconst 0, 1) := by decide +kernel
theorem dX7_word_1 : decode cX7_word 1 = .ok (.istore_n 3, 1) := by decide +kernel
theorem dX7_word_2 : decode cX7_word 2 = .ok (.iconst 0, 1) := by decide +kernel
theorem dX7_word_3 : decode cX7_word 3 = .ok (.istore 4, 2) := by decide +kernel
theorem dX7_word_5 : decode cX7_word 5 = .ok (.aload_n 0, 1) := by decide +kernel
theorem dX7_word_6 : decode cX7_word 6 = .ok (.getfield 16, 3) := by decide +kernel
theorem dX7_word_9 : decode cX7_word 9 = .ok (.bipush 38, 2) := by decide +kernel
theorem dX7_word_11 : decode cX7_word 11 = .ok (.iconst 3, 1) := by decide +kernel
theorem dX7_word_12 : decode cX7_word 12 = .ok (.iload_n 1, 1) := by decide +kernel
theorem dX7_word_13 : decode cX7_word 13 = .ok (.imul, 1) := by decide +kernel
theorem dX7_word_14 : decode cX7_word 14 = .ok (.iadd, 1) := by decide +kernel
theorem dX7_word_15 : decode cX7_word 15 = .ok (.iconst 1, 1) := by decide +kernel
theorem dX7_word_16 : decode cX7_word 16 = .ok (.iadd, 1) := by decide +kernel
theorem dX7_word_17 : decode cX7_word 17 = .ok (.iaload, 1) := by decide +kernel
theorem dX7_word_18 : decode cX7_word 18 = .ok (.istore 5, 2) := by decide +kernel
theorem dX7_word_20 : decode cX7_word 20 = .ok (.iload 5, 2) := by decide +kernel
theorem dX7_word_22 : decode cX7_word 22 = .ok (.aload_n 0, 1) := by decide +kernel
theorem dX7_word_23 : decode cX7_word 23 = .ok (.getfield 16, 3) := by decide +kernel
theorem dX7_word_26 : decode cX7_word 26 = .ok (.bipush 38, 2) := by decide +kernel
theorem dX7_word_28 : decode cX7_word 28 = .ok (.iconst 3, 1) := by decide +kernel
theorem dX7_word_29 : decode cX7_word 29 = .ok (.iload_n 1, 1) := by decide +kernel
theorem dX7_word_30 : decode cX7_word 30 = .ok (.imul, 1) := by decide +kernel
theorem dX7_word_31 : decode cX7_word 31 = .ok (.iadd, 1) := by decide +kernel
theorem dX7_word_32 : decode cX7_word 32 = .ok (.iconst 2, 1) := by decide +kernel
theorem dX7_word_33 : decode cX7_word 33 = .ok (.iadd, 1) := by decide +kernel
theorem dX7_word_34 : decode cX7_word 34 = .ok (.iaload, 1) := by decide +kernel
theorem dX7_word_35 : decode cX7_word 35 = .ok (.if_icmp .gt 69, 3) := by decide +kernel
theorem dX7_word_38 : decode cX7_word 38 = .ok (.aload_n 0, 1) := by decide +kernel
theorem dX7_word_39 : decode cX7_word 39 = .ok (.aload_n 0, 1) := by decide +kernel
theorem dX7_word_40 : decode cX7_word 40 = .ok (.getfield 25, 3) := by decide +kernel
theorem dX7_word_43 : decode cX7_word 43 = .ok (.iload 5, 2) := by decide +kernel
theorem dX7_word_45 : decode cX7_word 45 = .ok (.iaload, 1) := by decide +kernel
theorem dX7_word_46 : decode cX7_word 46 = .ok (.iconst 1, 1) := by decide +kernel
theorem dX7_word_47 : decode cX7_word 47 = .ok (.invokevirtual 128, 3) := by decide +kernel
theorem dX7_word_50 : decode cX7_word 50 = .ok (.ifCond .ne 7, 3) := by decide +kernel
theorem dX7_word_53 : decode cX7_word 53 = .ok (.iconst 1, 1) := by decide +kernel
theorem dX7_word_54 : decode cX7_word 54 = .ok (.goto 4, 3) := by decide +kernel
theorem dX7_word_57 : decode cX7_word 57 = .ok (.iconst 0, 1) := by decide +kernel
theorem dX7_word_58 : decode cX7_word 58 = .ok (.istore 6, 2) := by decide +kernel
theorem dX7_word_60 : decode cX7_word 60 = .ok (.iload_n 3, 1) := by decide +kernel
theorem dX7_word_61 : decode cX7_word 61 = .ok (.iload 6, 2) := by decide +kernel
theorem dX7_word_63 : decode cX7_word 63 = .ok (.ifCond .eq 7, 3) := by decide +kernel
theorem dX7_word_66 : decode cX7_word 66 = .ok (.iconst 1, 1) := by decide +kernel
theorem dX7_word_67 : decode cX7_word 67 = .ok (.goto 4, 3) := by decide +kernel
theorem dX7_word_70 : decode cX7_word 70 = .ok (.iconst 0, 1) := by decide +kernel
theorem dX7_word_71 : decode cX7_word 71 = .ok (.iadd, 1) := by decide +kernel
theorem dX7_word_72 : decode cX7_word 72 = .ok (.istore_n 3, 1) := by decide +kernel
theorem dX7_word_73 : decode cX7_word 73 = .ok (.iload 4, 2) := by decide +kernel
theorem dX7_word_75 : decode cX7_word 75 = .ok (.iload 6, 2) := by decide +kernel
theorem dX7_word_77 : decode cX7_word 77 = .ok (.ifCond .eq 17, 3) := by decide +kernel
theorem dX7_word_80 : decode cX7_word 80 = .ok (.aload_n 0, 1) := by decide +kernel
theorem dX7_word_81 : decode cX7_word 81 = .ok (.aload_n 0, 1) := by decide +kernel
theorem dX7_word_82 : decode cX7_word 82 = .ok (.getfield 25, 3) := by decide +kernel
theorem dX7_word_85 : decode cX7_word 85 = .ok (.iload 5, 2) := by decide +kernel
theorem dX7_word_87 : decode cX7_word 87 = .ok (.iaload, 1) := by decide +kernel
theorem dX7_word_88 : decode cX7_word 88 = .ok (.invokevirtual 137, 3) := by decide +kernel
theorem dX7_word_91 : decode cX7_word 91 = .ok (.goto 4, 3) := by decide +kernel
theorem dX7_word_94 : decode cX7_word 94 = .ok (.iconst 0, 1) := by decide +kernel
theorem dX7_word_95 : decode cX7_word 95 = .ok (.iadd, 1) := by decide +kernel
theorem dX7_word_96 : decode cX7_word 96 = .ok (.istore 4, 2) := by decide +kernel
theorem dX7_word_98 : decode cX7_word 98 = .ok (.iinc 5 1, 3) := by decide +kernel
theorem dX7_word_101 : decode cX7_word 101 = .ok (.goto (-81), 3) := by decide +kernel
theorem dX7_word_104 : decode cX7_word 104 = .ok (.iload_n 3, 1) := by decide +kernel
theorem dX7_word_105 : decode cX7_word 105 = .ok (.iload_n 2, 1) := by decide +kernel
theorem dX7_word_106 : decode cX7_word 106 = .ok (.if_icmp .ge 7, 3) := by decide +kernel
theorem dX7_word_109 : decode cX7_word 109 = .ok (.iconst 0, 1) := by decide +kernel
theorem dX7_word_110 : decode cX7_word 110 = .ok (.goto 13, 3) := by decide +kernel
theorem dX7_word_113 : decode cX7_word 113 = .ok (.iload 4, 2) := by decide +kernel
theorem dX7_word_115 : decode cX7_word 115 = .ok (.ifCond .lt 7, 3) := by decide +kernel
theorem dX7_word_118 : decode cX7_word 118 = .ok (.iconst 2, 1) := by decide +kernel
theorem dX7_word_119 : decode cX7_word 119 = .ok (.goto 4, 3) := by decide +kernel
theorem dX7_word_122 : decode cX7_word 122 = .ok (.iconst 1, 1) := by decide +kernel
theorem dX7_word_123 : decode cX7_word 123 = .ok (.ireturn, 1) := by decide +kernel
theorem dX7_words_0 : decode cX7_words 0 = .ok (.iconst 0, 1) := by decide +kernel
theorem dX7_words_1 : decode cX7_words 1 = .ok (.istore_n 2, 1) := by decide +kernel
theorem dX7_words_2 : decode cX7_words 2 = .ok (.iconst 0, 1) := by decide +kernel
theorem dX7_words_3 : decode cX7_words 3 = .ok (.istore_n 3, 1) := by decide +kernel
theorem dX7_words_4 : decode cX7_words 4 = .ok (.iload_n 3, 1) := by decide +kernel
theorem dX7_words_5 : decode cX7_words 5 = .ok (.aload_n 0, 1) := by decide +kernel
theorem dX7_words_6 : decode cX7_words 6 = .ok (.getfield 16, 3) := by decide +kernel
theorem dX7_words_9 : decode cX7_words 9 = .ok (.iconst 3, 1) := by decide +kernel
theorem dX7_words_10 : decode cX7_words 10 = .ok (.iaload, 1) := by decide +kernel
theorem dX7_words_11 : decode cX7_words 11 = .ok (.if_icmp .ge 20, 3) := by decide +kernel
theorem dX7_words_14 : decode cX7_words 14 = .ok (.iconst 3, 1) := by decide +kernel
theorem dX7_words_15 : decode cX7_words 15 = .ok (.iload_n 2, 1) := by decide +kernel
theorem dX7_words_16 : decode cX7_words 16 = .ok (.imul, 1) := by decide +kernel
theorem dX7_words_17 : decode cX7_words 17 = .ok (.aload_n 0, 1) := by decide +kernel
theorem dX7_words_18 : decode cX7_words 18 = .ok (.iload_n 3, 1) := by decide +kernel
theorem dX7_words_19 : decode cX7_words 19 = .ok (.iload_n 1, 1) := by decide +kernel
theorem dX7_words_20 : decode cX7_words 20 = .ok (.invokevirtual 161, 3) := by decide +kernel
theorem dX7_words_23 : decode cX7_words 23 = .ok (.iadd, 1) := by decide +kernel
theorem dX7_words_24 : decode cX7_words 24 = .ok (.istore_n 2, 1) := by decide +kernel
theorem dX7_words_25 : decode cX7_words 25 = .ok (.iinc 3 1, 3) := by decide +kernel
theorem dX7_words_28 : decode cX7_words 28 = .ok (.goto (-24), 3) := by decide +kernel
theorem dX7_words_31 : decode cX7_words 31 = .ok (.iload_n 2, 1) := by decide +kernel
theorem dX7_words_32 : decode cX7_words 32 = .ok (.ireturn, 1) := by decide +kernel
theorem dX7_rows_0 : decode cX7_rows 0 = .ok (.aload_n 0, 1) := by decide +kernel
theorem dX7_rows_1 : decode cX7_rows 1 = .ok (.getfield 16, 3) := by decide +kernel
theorem dX7_rows_4 : decode cX7_rows 4 = .ok (.iconst 1, 1) := by decide +kernel
theorem dX7_rows_5 : decode cX7_rows 5 = .ok (.iaload, 1) := by decide +kernel
theorem dX7_rows_6 : decode cX7_rows 6 = .ok (.ifCond .ne 7, 3) := by decide +kernel
theorem dX7_rows_9 : decode cX7_rows 9 = .ok (.iconst 0, 1) := by decide +kernel
theorem dX7_rows_10 : decode cX7_rows 10 = .ok (.goto 4, 3) := by decide +kernel
theorem dX7_rows_13 : decode cX7_rows 13 = .ok (.iconst 1, 1) := by decide +kernel
theorem dX7_rows_14 : decode cX7_rows 14 = .ok (.istore_n 1, 1) := by decide +kernel
theorem dX7_rows_15 : decode cX7_rows 15 = .ok (.iconst 0, 1) := by decide +kernel
theorem dX7_rows_16 : decode cX7_rows 16 = .ok (.istore_n 2, 1) := by decide +kernel
theorem dX7_rows_17 : decode cX7_rows 17 = .ok (.iload_n 2, 1) := by decide +kernel
theorem dX7_rows_18 : decode cX7_rows 18 = .ok (.aload_n 0, 1) := by decide +kernel
theorem dX7_rows_19 : decode cX7_rows 19 = .ok (.getfield 16, 3) := by decide +kernel
theorem dX7_rows_22 : decode cX7_rows 22 = .ok (.iconst 3, 1) := by decide +kernel
theorem dX7_rows_23 : decode cX7_rows 23 = .ok (.iaload, 1) := by decide +kernel
theorem dX7_rows_24 : decode cX7_rows 24 = .ok (.if_icmp .ge 13, 3) := by decide +kernel
theorem dX7_rows_27 : decode cX7_rows 27 = .ok (.iload_n 1, 1) := by decide +kernel
theorem dX7_rows_28 : decode cX7_rows 28 = .ok (.iconst 3, 1) := by decide +kernel
theorem dX7_rows_29 : decode cX7_rows 29 = .ok (.imul, 1) := by decide +kernel
theorem dX7_rows_30 : decode cX7_rows 30 = .ok (.istore_n 1, 1) := by decide +kernel
theorem dX7_rows_31 : decode cX7_rows 31 = .ok (.iinc 2 1, 3) := by decide +kernel
theorem dX7_rows_34 : decode cX7_rows 34 = .ok (.goto (-17), 3) := by decide +kernel
theorem dX7_rows_37 : decode cX7_rows 37 = .ok (.iload_n 1, 1) := by decide +kernel
theorem dX7_rows_38 : decode cX7_rows 38 = .ok (.ireturn, 1) := by decide +kernel
theorem dX7_isLife_0 : decode cX7_isLife 0 = .ok (.aload_n 0, 1) := by decide +kernel
theorem dX7_isLife_1 : decode cX7_isLife 1 = .ok (.iload_n 1, 1) := by decide +kernel
theorem dX7_isLife_2 : decode cX7_isLife 2 = .ok (.iload_n 2, 1) := by decide +kernel
theorem dX7_isLife_3 : decode cX7_isLife 3 = .ok (.invokevirtual 164, 3) := by decide +kernel
theorem dX7_isLife_6 : decode cX7_isLife 6 = .ok (.aload_n 0, 1) := by decide +kernel
theorem dX7_isLife_7 : decode cX7_isLife 7 = .ok (.iload_n 3, 1) := by decide +kernel
theorem dX7_isLife_8 : decode cX7_isLife 8 = .ok (.invokevirtual 167, 3) := by decide +kernel
theorem dX7_isLife_11 : decode cX7_isLife 11 = .ok (.iload_n 1, 1) := by decide +kernel
theorem dX7_isLife_12 : decode cX7_isLife 12 = .ok (.if_icmp .ne 7, 3) := by decide +kernel
theorem dX7_isLife_15 : decode cX7_isLife 15 = .ok (.iconst 1, 1) := by decide +kernel
theorem dX7_isLife_16 : decode cX7_isLife 16 = .ok (.goto 4, 3) := by decide +kernel
theorem dX7_isLife_19 : decode cX7_isLife 19 = .ok (.iconst 0, 1) := by decide +kernel
theorem dX7_isLife_20 : decode cX7_isLife 20 = .ok (.ireturn, 1) := by decide +kernel
theorem dX7_livesFrom_0 : decode cX7_livesFrom 0 = .ok (.iconst 0, 1) := by decide +kernel
theorem dX7_livesFrom_1 : decode cX7_livesFrom 1 = .ok (.istore_n 3, 1) := by decide +kernel
theorem dX7_livesFrom_2 : decode cX7_livesFrom 2 = .ok (.iconst 0, 1) := by decide +kernel
theorem dX7_livesFrom_3 : decode cX7_livesFrom 3 = .ok (.istore 4, 2) := by decide +kernel
theorem dX7_livesFrom_5 : decode cX7_livesFrom 5 = .ok (.iload 4, 2) := by decide +kernel
theorem dX7_livesFrom_7 : decode cX7_livesFrom 7 = .ok (.aload_n 0, 1) := by decide +kernel
theorem dX7_livesFrom_8 : decode cX7_livesFrom 8 = .ok (.invokevirtual 170, 3) := by decide +kernel
theorem dX7_livesFrom_11 : decode cX7_livesFrom 11 = .ok (.if_icmp .ge 28, 3) := by decide +kernel
theorem dX7_livesFrom_14 : decode cX7_livesFrom 14 = .ok (.iload_n 3, 1) := by decide +kernel
theorem dX7_livesFrom_15 : decode cX7_livesFrom 15 = .ok (.aload_n 0, 1) := by decide +kernel
theorem dX7_livesFrom_16 : decode cX7_livesFrom 16 = .ok (.iload 4, 2) := by decide +kernel
theorem dX7_livesFrom_18 : decode cX7_livesFrom 18 = .ok (.iload_n 1, 1) := by decide +kernel
theorem dX7_livesFrom_19 : decode cX7_livesFrom 19 = .ok (.iload_n 2, 1) := by decide +kernel
theorem dX7_livesFrom_20 : decode cX7_livesFrom 20 = .ok (.invokevirtual 174, 3) := by decide +kernel
theorem dX7_livesFrom_23 : decode cX7_livesFrom 23 = .ok (.ifCond .eq 7, 3) := by decide +kernel
theorem dX7_livesFrom_26 : decode cX7_livesFrom 26 = .ok (.iconst 1, 1) := by decide +kernel
theorem dX7_livesFrom_27 : decode cX7_livesFrom 27 = .ok (.goto 4, 3) := by decide +kernel
theorem dX7_livesFrom_30 : decode cX7_livesFrom 30 = .ok (.iconst 0, 1) := by decide +kernel
theorem dX7_livesFrom_31 : decode cX7_livesFrom 31 = .ok (.iadd, 1) := by decide +kernel
theorem dX7_livesFrom_32 : decode cX7_livesFrom 32 = .ok (.istore_n 3, 1) := by decide +kernel
theorem dX7_livesFrom_33 : decode cX7_livesFrom 33 = .ok (.iinc 4 1, 3) := by decide +kernel
theorem dX7_livesFrom_36 : decode cX7_livesFrom 36 = .ok (.goto (-31), 3) := by decide +kernel
theorem dX7_livesFrom_39 : decode cX7_livesFrom 39 = .ok (.iload_n 3, 1) := by decide +kernel
theorem dX7_livesFrom_40 : decode cX7_livesFrom 40 = .ok (.ireturn, 1) := by decide +kernel
theorem dX7_lives_0 : decode cX7_lives 0 = .ok (.aload_n 0, 1) := by decide +kernel
theorem dX7_lives_1 : decode cX7_lives 1 = .ok (.aload_n 0, 1) := by decide +kernel
theorem dX7_lives_2 : decode cX7_lives 2 = .ok (.invokevirtual 178, 3) := by decide +kernel
theorem dX7_lives_5 : decode cX7_lives 5 = .ok (.aload_n 0, 1) := by decide +kernel
theorem dX7_lives_6 : decode cX7_lives 6 = .ok (.getfield 16, 3) := by decide +kernel
theorem dX7_lives_9 : decode cX7_lives 9 = .ok (.iconst 4, 1) := by decide +kernel
theorem dX7_lives_10 : decode cX7_lives 10 = .ok (.iaload, 1) := by decide +kernel
theorem dX7_lives_11 : decode cX7_lives 11 = .ok (.invokevirtual 181, 3) := by decide +kernel
theorem dX7_lives_14 : decode cX7_lives 14 = .ok (.ireturn, 1) := by decide +kernel
theorem dX7_gone_0 : decode cX7_gone 0 = .ok (.iconst 0, 1) := by decide +kernel
theorem dX7_gone_1 : decode cX7_gone 1 = .ok (.istore_n 2, 1) := by decide +kernel
theorem dX7_gone_2 : decode cX7_gone 2 = .ok (.iconst 0, 1) := by decide +kernel
theorem dX7_gone_3 : decode cX7_gone 3 = .ok (.istore_n 3, 1) := by decide +kernel
theorem dX7_gone_4 : decode cX7_gone 4 = .ok (.iload_n 3, 1) := by decide +kernel
theorem dX7_gone_5 : decode cX7_gone 5 = .ok (.aload_n 0, 1) := by decide +kernel
theorem dX7_gone_6 : decode cX7_gone 6 = .ok (.invokevirtual 170, 3) := by decide +kernel
theorem dX7_gone_9 : decode cX7_gone 9 = .ok (.if_icmp .ge 37, 3) := by decide +kernel
theorem dX7_gone_12 : decode cX7_gone 12 = .ok (.aload_n 0, 1) := by decide +kernel
theorem dX7_gone_13 : decode cX7_gone 13 = .ok (.iload_n 3, 1) := by decide +kernel
theorem dX7_gone_14 : decode cX7_gone 14 = .ok (.aload_n 0, 1) := by decide +kernel
theorem dX7_gone_15 : decode cX7_gone 15 = .ok (.invokevirtual 178, 3) := by decide +kernel
theorem dX7_gone_18 : decode cX7_gone 18 = .ok (.aload_n 0, 1) := by decide +kernel
theorem dX7_gone_19 : decode cX7_gone 19 = .ok (.getfield 16, 3) := by decide +kernel
theorem dX7_gone_22 : decode cX7_gone 22 = .ok (.iconst 4, 1) := by decide +kernel
theorem dX7_gone_23 : decode cX7_gone 23 = .ok (.iaload, 1) := by decide +kernel
theorem dX7_gone_24 : decode cX7_gone 24 = .ok (.invokevirtual 174, 3) := by decide +kernel
theorem dX7_gone_27 : decode cX7_gone 27 = .ok (.ifCond .eq 13, 3) := by decide +kernel
theorem dX7_gone_30 : decode cX7_gone 30 = .ok (.iload_n 2, 1) := by decide +kernel
theorem dX7_gone_31 : decode cX7_gone 31 = .ok (.iload_n 1, 1) := by decide +kernel
theorem dX7_gone_32 : decode cX7_gone 32 = .ok (.if_icmp .ne 5, 3) := by decide +kernel
theorem dX7_gone_35 : decode cX7_gone 35 = .ok (.iload_n 3, 1) := by decide +kernel
theorem dX7_gone_36 : decode cX7_gone 36 = .ok (.ireturn, 1) := by decide +kernel
theorem dX7_gone_37 : decode cX7_gone 37 = .ok (.iinc 2 1, 3) := by decide +kernel
theorem dX7_gone_40 : decode cX7_gone 40 = .ok (.iinc 3 1, 3) := by decide +kernel
theorem dX7_gone_43 : decode cX7_gone 43 = .ok (.goto (-39), 3) := by decide +kernel
theorem dX7_gone_46 : decode cX7_gone 46 = .ok (.iconst (-1), 1) := by decide +kernel
theorem dX7_gone_47 : decode cX7_gone 47 = .ok (.ireturn, 1) := by decide +kernel
theorem dX7_verdict_0 : decode cX7_verdict 0 = .ok (.aload_n 0, 1) := by decide +kernel
theorem dX7_verdict_1 : decode cX7_verdict 1 = .ok (.iload_n 2, 1) := by decide +kernel
theorem dX7_verdict_2 : decode cX7_verdict 2 = .ok (.invokevirtual 142, 3) := by decide +kernel
theorem dX7_verdict_5 : decode cX7_verdict 5 = .ok (.ifCond .eq 11, 3) := by decide +kernel
theorem dX7_verdict_8 : decode cX7_verdict 8 = .ok (.aload_n 0, 1) := by decide +kernel
theorem dX7_verdict_9 : decode cX7_verdict 9 = .ok (.iload_n 1, 1) := by decide +kernel
theorem dX7_verdict_10 : decode cX7_verdict 10 = .ok (.invokevirtual 184, 3) := by decide +kernel
theorem dX7_verdict_13 : decode cX7_verdict 13 = .ok (.goto 4, 3) := by decide +kernel
theorem dX7_verdict_16 : decode cX7_verdict 16 = .ok (.iconst (-1), 1) := by decide +kernel
theorem dX7_verdict_17 : decode cX7_verdict 17 = .ok (.istore_n 3, 1) := by decide +kernel
theorem dX7_verdict_18 : decode cX7_verdict 18 = .ok (.iload_n 3, 1) := by decide +kernel
theorem dX7_verdict_19 : decode cX7_verdict 19 = .ok (.ifCond .ge 7, 3) := by decide +kernel
theorem dX7_verdict_22 : decode cX7_verdict 22 = .ok (.iconst (-1), 1) := by decide +kernel
theorem dX7_verdict_23 : decode cX7_verdict 23 = .ok (.goto 14, 3) := by decide +kernel
theorem dX7_verdict_26 : decode cX7_verdict 26 = .ok (.iload_n 3, 1) := by decide +kernel
theorem dX7_verdict_27 : decode cX7_verdict 27 = .ok (.iload_n 2, 1) := by decide +kernel
theorem dX7_verdict_28 : decode cX7_verdict 28 = .ok (.aload_n 0, 1) := by decide +kernel
theorem dX7_verdict_29 : decode cX7_verdict 29 = .ok (.getfield 16, 3) := by decide +kernel
theorem dX7_verdict_32 : decode cX7_verdict 32 = .ok (.iconst 3, 1) := by decide +kernel
theorem dX7_verdict_33 : decode cX7_verdict 33 = .ok (.iaload, 1) := by decide +kernel
theorem dX7_verdict_34 : decode cX7_verdict 34 = .ok (.invokestatic 157, 3) := by decide +kernel
theorem dX7_verdict_37 : decode cX7_verdict 37 = .ok (.ireturn, 1) := by decide +kernel
theorem dX7_self_0 : decode cX7_self 0 = .ok (.aload_n 0, 1) := by decide +kernel
theorem dX7_self_1 : decode cX7_self 1 = .ok (.iload_n 2, 1) := by decide +kernel
theorem dX7_self_2 : decode cX7_self 2 = .ok (.invokevirtual 147, 3) := by decide +kernel
theorem dX7_self_5 : decode cX7_self 5 = .ok (.ifCond .eq 20, 3) := by decide +kernel
theorem dX7_self_8 : decode cX7_self 8 = .ok (.aload_n 0, 1) := by decide +kernel
theorem dX7_self_9 : decode cX7_self 9 = .ok (.iload_n 1, 1) := by decide +kernel
theorem dX7_self_10 : decode cX7_self 10 = .ok (.invokevirtual 184, 3) := by decide +kernel
theorem dX7_self_13 : decode cX7_self 13 = .ok (.ifCond .lt 12, 3) := by decide +kernel
theorem dX7_self_16 : decode cX7_self 16 = .ok (.aload_n 0, 1) := by decide +kernel
theorem dX7_self_17 : decode cX7_self 17 = .ok (.getfield 25, 3) := by decide +kernel
theorem dX7_self_20 : decode cX7_self 20 = .ok (.iload_n 2, 1) := by decide +kernel
theorem dX7_self_21 : decode cX7_self 21 = .ok (.iaload, 1) := by decide +kernel
theorem dX7_self_22 : decode cX7_self 22 = .ok (.goto 4, 3) := by decide +kernel
theorem dX7_self_25 : decode cX7_self 25 = .ok (.iconst (-1), 1) := by decide +kernel
theorem dX7_self_26 : decode cX7_self 26 = .ok (.ireturn, 1) := by decide +kernel
theorem dX7_sureFrom_0 : decode cX7_sureFrom 0 = .ok (.bipush (-9), 2) := by decide +kernel
theorem dX7_sureFrom_2 : decode cX7_sureFrom 2 = .ok (.istore_n 3, 1) := by decide +kernel
theorem dX7_sureFrom_3 : decode cX7_sureFrom 3 = .ok (.iconst 0, 1) := by decide +kernel
theorem dX7_sureFrom_4 : decode cX7_sureFrom 4 = .ok (.istore 4, 2) := by decide +kernel
theorem dX7_sureFrom_6 : decode cX7_sureFrom 6 = .ok (.iload 4, 2) := by decide +kernel
theorem dX7_sureFrom_8 : decode cX7_sureFrom 8 = .ok (.aload_n 0, 1) := by decide +kernel
theorem dX7_sureFrom_9 : decode cX7_sureFrom 9 = .ok (.invokevirtual 170, 3) := by decide +kernel
theorem dX7_sureFrom_12 : decode cX7_sureFrom 12 = .ok (.if_icmp .ge 59, 3) := by decide +kernel
theorem dX7_sureFrom_15 : decode cX7_sureFrom 15 = .ok (.aload_n 0, 1) := by decide +kernel
theorem dX7_sureFrom_16 : decode cX7_sureFrom 16 = .ok (.iload 4, 2) := by decide +kernel
theorem dX7_sureFrom_18 : decode cX7_sureFrom 18 = .ok (.iload_n 2, 1) := by decide +kernel
theorem dX7_sureFrom_19 : decode cX7_sureFrom 19 = .ok (.aload_n 0, 1) := by decide +kernel
theorem dX7_sureFrom_20 : decode cX7_sureFrom 20 = .ok (.getfield 16, 3) := by decide +kernel
theorem dX7_sureFrom_23 : decode cX7_sureFrom 23 = .ok (.iconst 4, 1) := by decide +kernel
theorem dX7_sureFrom_24 : decode cX7_sureFrom 24 = .ok (.iaload, 1) := by decide +kernel
theorem dX7_sureFrom_25 : decode cX7_sureFrom 25 = .ok (.invokevirtual 174, 3) := by decide +kernel
theorem dX7_sureFrom_28 : decode cX7_sureFrom 28 = .ok (.ifCond .eq 37, 3) := by decide +kernel
theorem dX7_sureFrom_31 : decode cX7_sureFrom 31 = .ok (.iload 4, 2) := by decide +kernel
theorem dX7_sureFrom_33 : decode cX7_sureFrom 33 = .ok (.iload_n 1, 1) := by decide +kernel
theorem dX7_sureFrom_34 : decode cX7_sureFrom 34 = .ok (.aload_n 0, 1) := by decide +kernel
theorem dX7_sureFrom_35 : decode cX7_sureFrom 35 = .ok (.getfield 16, 3) := by decide +kernel
theorem dX7_sureFrom_38 : decode cX7_sureFrom 38 = .ok (.iconst 3, 1) := by decide +kernel
theorem dX7_sureFrom_39 : decode cX7_sureFrom 39 = .ok (.iaload, 1) := by decide +kernel
theorem dX7_sureFrom_40 : decode cX7_sureFrom 40 = .ok (.invokestatic 157, 3) := by decide +kernel
theorem dX7_sureFrom_43 : decode cX7_sureFrom 43 = .ok (.istore 5, 2) := by decide +kernel
theorem dX7_sureFrom_45 : decode cX7_sureFrom 45 = .ok (.iload_n 3, 1) := by decide +kernel
theorem dX7_sureFrom_46 : decode cX7_sureFrom 46 = .ok (.bipush (-9), 2) := by decide +kernel
theorem dX7_sureFrom_48 : decode cX7_sureFrom 48 = .ok (.if_icmp .eq 9, 3) := by decide +kernel
theorem dX7_sureFrom_51 : decode cX7_sureFrom 51 = .ok (.iload_n 3, 1) := by decide +kernel
theorem dX7_sureFrom_52 : decode cX7_sureFrom 52 = .ok (.iload 5, 2) := by decide +kernel
theorem dX7_sureFrom_54 : decode cX7_sureFrom 54 = .ok (.if_icmp .ne 8, 3) := by decide +kernel
theorem dX7_sureFrom_57 : decode cX7_sureFrom 57 = .ok (.iload 5, 2) := by decide +kernel
theorem dX7_sureFrom_59 : decode cX7_sureFrom 59 = .ok (.goto 5, 3) := by decide +kernel
theorem dX7_sureFrom_62 : decode cX7_sureFrom 62 = .ok (.bipush (-5), 2) := by decide +kernel
theorem dX7_sureFrom_64 : decode cX7_sureFrom 64 = .ok (.istore_n 3, 1) := by decide +kernel
theorem dX7_sureFrom_65 : decode cX7_sureFrom 65 = .ok (.iinc 4 1, 3) := by decide +kernel
theorem dX7_sureFrom_68 : decode cX7_sureFrom 68 = .ok (.goto (-62), 3) := by decide +kernel
theorem dX7_sureFrom_71 : decode cX7_sureFrom 71 = .ok (.iload_n 3, 1) := by decide +kernel
theorem dX7_sureFrom_72 : decode cX7_sureFrom 72 = .ok (.ireturn, 1) := by decide +kernel
theorem dX7_sure_0 : decode cX7_sure 0 = .ok (.aload_n 0, 1) := by decide +kernel
theorem dX7_sure_1 : decode cX7_sure 1 = .ok (.iload_n 1, 1) := by decide +kernel
theorem dX7_sure_2 : decode cX7_sure 2 = .ok (.invokevirtual 142, 3) := by decide +kernel
theorem dX7_sure_5 : decode cX7_sure 5 = .ok (.ifCond .eq 15, 3) := by decide +kernel
theorem dX7_sure_8 : decode cX7_sure 8 = .ok (.aload_n 0, 1) := by decide +kernel
theorem dX7_sure_9 : decode cX7_sure 9 = .ok (.iload_n 1, 1) := by decide +kernel
theorem dX7_sure_10 : decode cX7_sure 10 = .ok (.aload_n 0, 1) := by decide +kernel
theorem dX7_sure_11 : decode cX7_sure 11 = .ok (.invokevirtual 178, 3) := by decide +kernel
theorem dX7_sure_14 : decode cX7_sure 14 = .ok (.invokevirtual 187, 3) := by decide +kernel
theorem dX7_sure_17 : decode cX7_sure 17 = .ok (.goto 4, 3) := by decide +kernel
theorem dX7_sure_20 : decode cX7_sure 20 = .ok (.iconst (-1), 1) := by decide +kernel
theorem dX7_sure_21 : decode cX7_sure 21 = .ok (.ireturn, 1) := by decide +kernel
theorem dX7_who_0 : decode cX7_who 0 = .ok (.aload_n 0, 1) := by decide +kernel
theorem dX7_who_1 : decode cX7_who 1 = .ok (.iload_n 1, 1) := by decide +kernel
theorem dX7_who_2 : decode cX7_who 2 = .ok (.invokevirtual 147, 3) := by decide +kernel
theorem dX7_who_5 : decode cX7_who 5 = .ok (.ifCond .ne 5, 3) := by decide +kernel
theorem dX7_who_8 : decode cX7_who 8 = .ok (.iconst (-1), 1) := by decide +kernel
theorem dX7_who_9 : decode cX7_who 9 = .ok (.ireturn, 1) := by decide +kernel
theorem dX7_who_10 : decode cX7_who 10 = .ok (.iconst 0, 1) := by decide +kernel
theorem dX7_who_11 : decode cX7_who 11 = .ok (.istore_n 2, 1) := by decide +kernel
theorem dX7_who_12 : decode cX7_who 12 = .ok (.iconst 0, 1) := by decide +kernel
theorem dX7_who_13 : decode cX7_who 13 = .ok (.istore_n 3, 1) := by decide +kernel
theorem dX7_who_14 : decode cX7_who 14 = .ok (.iload_n 3, 1) := by decide +kernel
theorem dX7_who_15 : decode cX7_who 15 = .ok (.aload_n 0, 1) := by decide +kernel
theorem dX7_who_16 : decode cX7_who 16 = .ok (.invokevirtual 170, 3) := by decide +kernel
theorem dX7_who_19 : decode cX7_who 19 = .ok (.if_icmp .ge 42, 3) := by decide +kernel
theorem dX7_who_22 : decode cX7_who 22 = .ok (.iload_n 2, 1) := by decide +kernel
theorem dX7_who_23 : decode cX7_who 23 = .ok (.aload_n 0, 1) := by decide +kernel
theorem dX7_who_24 : decode cX7_who 24 = .ok (.iload_n 3, 1) := by decide +kernel
theorem dX7_who_25 : decode cX7_who 25 = .ok (.aload_n 0, 1) := by decide +kernel
theorem dX7_who_26 : decode cX7_who 26 = .ok (.invokevirtual 178, 3) := by decide +kernel
theorem dX7_who_29 : decode cX7_who 29 = .ok (.aload_n 0, 1) := by decide +kernel
theorem dX7_who_30 : decode cX7_who 30 = .ok (.getfield 16, 3) := by decide +kernel
theorem dX7_who_33 : decode cX7_who 33 = .ok (.iconst 4, 1) := by decide +kernel
theorem dX7_who_34 : decode cX7_who 34 = .ok (.iaload, 1) := by decide +kernel
theorem dX7_who_35 : decode cX7_who 35 = .ok (.invokevirtual 174, 3) := by decide +kernel
theorem dX7_who_38 : decode cX7_who 38 = .ok (.ifCond .eq 14, 3) := by decide +kernel
theorem dX7_who_41 : decode cX7_who 41 = .ok (.iconst 1, 1) := by decide +kernel
theorem dX7_who_42 : decode cX7_who 42 = .ok (.aload_n 0, 1) := by decide +kernel
theorem dX7_who_43 : decode cX7_who 43 = .ok (.getfield 25, 3) := by decide +kernel
theorem dX7_who_46 : decode cX7_who 46 = .ok (.iload_n 1, 1) := by decide +kernel
theorem dX7_who_47 : decode cX7_who 47 = .ok (.iaload, 1) := by decide +kernel
theorem dX7_who_48 : decode cX7_who 48 = .ok (.ishl, 1) := by decide +kernel
theorem dX7_who_49 : decode cX7_who 49 = .ok (.goto 4, 3) := by decide +kernel
theorem dX7_who_52 : decode cX7_who 52 = .ok (.iconst 0, 1) := by decide +kernel
theorem dX7_who_53 : decode cX7_who 53 = .ok (.ior, 1) := by decide +kernel
theorem dX7_who_54 : decode cX7_who 54 = .ok (.istore_n 2, 1) := by decide +kernel
theorem dX7_who_55 : decode cX7_who 55 = .ok (.iinc 3 1, 3) := by decide +kernel
theorem dX7_who_58 : decode cX7_who 58 = .ok (.goto (-44), 3) := by decide +kernel
theorem dX7_who_61 : decode cX7_who 61 = .ok (.iload_n 2, 1) := by decide +kernel
theorem dX7_who_62 : decode cX7_who 62 = .ok (.ireturn, 1) := by decide +kernel
theorem dX7_ring_0 : decode cX7_ring 0 = .ok (.iload_n 1, 1) := by decide +kernel
theorem dX7_ring_1 : decode cX7_ring 1 = .ok (.i2l, 1) := by decide +kernel
theorem dX7_ring_2 : decode cX7_ring 2 = .ok (.lconst 0, 1) := by decide +kernel
theorem dX7_ring_3 : decode cX7_ring 3 = .ok (.lconst 1, 1) := by decide +kernel
theorem dX7_ring_4 : decode cX7_ring 4 = .ok (.invokestatic 51, 3) := by decide +kernel
theorem dX7_ring_7 : decode cX7_ring 7 = .ok (.ifCond .ne 5, 3) := by decide +kernel
theorem dX7_ring_10 : decode cX7_ring 10 = .ok (.iconst (-1), 1) := by decide +kernel
theorem dX7_ring_11 : decode cX7_ring 11 = .ok (.ireturn, 1) := by decide +kernel
theorem dX7_ring_12 : decode cX7_ring 12 = .ok (.aload_n 0, 1) := by decide +kernel
theorem dX7_ring_13 : decode cX7_ring 13 = .ok (.getfield 16, 3) := by decide +kernel
theorem dX7_ring_16 : decode cX7_ring 16 = .ok (.iconst 1, 1) := by decide +kernel
theorem dX7_ring_17 : decode cX7_ring 17 = .ok (.iaload, 1) := by decide +kernel
theorem dX7_ring_18 : decode cX7_ring 18 = .ok (.ifCond .ne 5, 3) := by decide +kernel
theorem dX7_ring_21 : decode cX7_ring 21 = .ok (.iconst 0, 1) := by decide +kernel
theorem dX7_ring_22 : decode cX7_ring 22 = .ok (.ireturn, 1) := by decide +kernel
theorem dX7_ring_23 : decode cX7_ring 23 = .ok (.iconst 0, 1) := by decide +kernel
theorem dX7_ring_24 : decode cX7_ring 24 = .ok (.istore_n 2, 1) := by decide +kernel
theorem dX7_ring_25 : decode cX7_ring 25 = .ok (.iload_n 2, 1) := by decide +kernel
theorem dX7_ring_26 : decode cX7_ring 26 = .ok (.bipush 27, 2) := by decide +kernel
theorem dX7_ring_28 : decode cX7_ring 28 = .ok (.if_icmp .ge 16, 3) := by decide +kernel
theorem dX7_ring_31 : decode cX7_ring 31 = .ok (.aload_n 0, 1) := by decide +kernel
theorem dX7_ring_32 : decode cX7_ring 32 = .ok (.getfield 28, 3) := by decide +kernel
theorem dX7_ring_35 : decode cX7_ring 35 = .ok (.iload_n 2, 1) := by decide +kernel
theorem dX7_ring_36 : decode cX7_ring 36 = .ok (.iconst (-1), 1) := by decide +kernel
theorem dX7_ring_37 : decode cX7_ring 37 = .ok (.iastore, 1) := by decide +kernel
theorem dX7_ring_38 : decode cX7_ring 38 = .ok (.iinc 2 1, 3) := by decide +kernel
theorem dX7_ring_41 : decode cX7_ring 41 = .ok (.goto (-16), 3) := by decide +kernel
theorem dX7_ring_44 : decode cX7_ring 44 = .ok (.iconst 0, 1) := by decide +kernel
theorem dX7_ring_45 : decode cX7_ring 45 = .ok (.istore_n 2, 1) := by decide +kernel
theorem dX7_ring_46 : decode cX7_ring 46 = .ok (.iconst 0, 1) := by decide +kernel
theorem dX7_ring_47 : decode cX7_ring 47 = .ok (.istore_n 3, 1) := by decide +kernel
theorem dX7_ring_48 : decode cX7_ring 48 = .ok (.aload_n 0, 1) := by decide +kernel
theorem dX7_ring_49 : decode cX7_ring 49 = .ok (.getfield 28, 3) := by decide +kernel
theorem dX7_ring_52 : decode cX7_ring 52 = .ok (.iload_n 2, 1) := by decide +kernel
theorem dX7_ring_53 : decode cX7_ring 53 = .ok (.iaload, 1) := by decide +kernel
theorem dX7_ring_54 : decode cX7_ring 54 = .ok (.ifCond .ge 36, 3) := by decide +kernel
theorem dX7_ring_57 : decode cX7_ring 57 = .ok (.aload_n 0, 1) := by decide +kernel
theorem dX7_ring_58 : decode cX7_ring 58 = .ok (.getfield 28, 3) := by decide +kernel
theorem dX7_ring_61 : decode cX7_ring 61 = .ok (.iload_n 2, 1) := by decide +kernel
theorem dX7_ring_62 : decode cX7_ring 62 = .ok (.iload_n 3, 1) := by decide +kernel
theorem dX7_ring_63 : decode cX7_ring 63 = .ok (.iastore, 1) := by decide +kernel
theorem dX7_ring_64 : decode cX7_ring 64 = .ok (.iinc 3 1, 3) := by decide +kernel
theorem dX7_ring_67 : decode cX7_ring 67 = .ok (.aload_n 0, 1) := by decide +kernel
theorem dX7_ring_68 : decode cX7_ring 68 = .ok (.iload_n 2, 1) := by decide +kernel
theorem dX7_ring_69 : decode cX7_ring 69 = .ok (.aload_n 0, 1) := by decide +kernel
theorem dX7_ring_70 : decode cX7_ring 70 = .ok (.invokevirtual 178, 3) := by decide +kernel
theorem dX7_ring_73 : decode cX7_ring 73 = .ok (.invokevirtual 164, 3) := by decide +kernel
theorem dX7_ring_76 : decode cX7_ring 76 = .ok (.aload_n 0, 1) := by decide +kernel
theorem dX7_ring_77 : decode cX7_ring 77 = .ok (.aload_n 0, 1) := by decide +kernel
theorem dX7_ring_78 : decode cX7_ring 78 = .ok (.getfield 16, 3) := by decide +kernel
theorem dX7_ring_81 : decode cX7_ring 81 = .ok (.iconst 4, 1) := by decide +kernel
theorem dX7_ring_82 : decode cX7_ring 82 = .ok (.iaload, 1) := by decide +kernel
theorem dX7_ring_83 : decode cX7_ring 83 = .ok (.invokevirtual 167, 3) := by decide +kernel
theorem dX7_ring_86 : decode cX7_ring 86 = .ok (.istore_n 2, 1) := by decide +kernel
theorem dX7_ring_87 : decode cX7_ring 87 = .ok (.goto (-39), 3) := by decide +kernel
theorem dX7_ring_90 : decode cX7_ring 90 = .ok (.iload_n 1, 1) := by decide +kernel
theorem dX7_ring_91 : decode cX7_ring 91 = .ok (.ifCond .ne 12, 3) := by decide +kernel
theorem dX7_ring_94 : decode cX7_ring 94 = .ok (.aload_n 0, 1) := by decide +kernel
theorem dX7_ring_95 : decode cX7_ring 95 = .ok (.getfield 28, 3) := by decide +kernel
theorem dX7_ring_98 : decode cX7_ring 98 = .ok (.iload_n 2, 1) := by decide +kernel
theorem dX7_ring_99 : decode cX7_ring 99 = .ok (.iaload, 1) := by decide +kernel
theorem dX7_ring_100 : decode cX7_ring 100 = .ok (.goto 11, 3) := by decide +kernel
theorem dX7_ring_103 : decode cX7_ring 103 = .ok (.iload_n 3, 1) := by decide +kernel
theorem dX7_ring_104 : decode cX7_ring 104 = .ok (.aload_n 0, 1) := by decide +kernel
theorem dX7_ring_105 : decode cX7_ring 105 = .ok (.getfield 28, 3) := by decide +kernel
theorem dX7_ring_108 : decode cX7_ring 108 = .ok (.iload_n 2, 1) := by decide +kernel
theorem dX7_ring_109 : decode cX7_ring 109 = .ok (.iaload, 1) := by decide +kernel
theorem dX7_ring_110 : decode cX7_ring 110 = .ok (.isub, 1) := by decide +kernel
theorem dX7_ring_111 : decode cX7_ring 111 = .ok (.ireturn, 1) := by decide +kernel
theorem dX7_help_0 : decode cX7_help 0 = .ok (.aload_n 0, 1) := by decide +kernel
theorem dX7_help_1 : decode cX7_help 1 = .ok (.iload_n 1, 1) := by decide +kernel
theorem dX7_help_2 : decode cX7_help 2 = .ok (.invokevirtual 142, 3) := by decide +kernel
theorem dX7_help_5 : decode cX7_help 5 = .ok (.ifCond .eq 15, 3) := by decide +kernel
theorem dX7_help_8 : decode cX7_help 8 = .ok (.iload_n 2, 1) := by decide +kernel
theorem dX7_help_9 : decode cX7_help 9 = .ok (.i2l, 1) := by decide +kernel
theorem dX7_help_10 : decode cX7_help 10 = .ok (.lconst 0, 1) := by decide +kernel
theorem dX7_help_11 : decode cX7_help 11 = .ok (.ldc2_w 145, 3) := by decide +kernel
theorem dX7_help_14 : decode cX7_help 14 = .ok (.invokestatic 51, 3) := by decide +kernel
theorem dX7_help_17 : decode cX7_help 17 = .ok (.ifCond .ne 5, 3) := by decide +kernel
theorem dX7_help_20 : decode cX7_help 20 = .ok (.iconst (-1), 1) := by decide +kernel
theorem dX7_help_21 : decode cX7_help 21 = .ok (.ireturn, 1) := by decide +kernel
theorem dX7_help_22 : decode cX7_help 22 = .ok (.aload_n 0, 1) := by decide +kernel
theorem dX7_help_23 : decode cX7_help 23 = .ok (.iload_n 1, 1) := by decide +kernel
theorem dX7_help_24 : decode cX7_help 24 = .ok (.aload_n 0, 1) := by decide +kernel
theorem dX7_help_25 : decode cX7_help 25 = .ok (.invokevirtual 178, 3) := by decide +kernel
theorem dX7_help_28 : decode cX7_help 28 = .ok (.invokevirtual 187, 3) := by decide +kernel
theorem dX7_help_31 : decode cX7_help 31 = .ok (.iconst 2, 1) := by decide +kernel
theorem dX7_help_32 : decode cX7_help 32 = .ok (.if_icmp .ne 14, 3) := by decide +kernel
theorem dX7_help_35 : decode cX7_help 35 = .ok (.iload_n 2, 1) := by decide +kernel
theorem dX7_help_36 : decode cX7_help 36 = .ok (.ifCond .ne 7, 3) := by decide +kernel
theorem dX7_help_39 : decode cX7_help 39 = .ok (.iconst 0, 1) := by decide +kernel
theorem dX7_help_40 : decode cX7_help 40 = .ok (.goto 5, 3) := by decide +kernel
theorem dX7_help_43 : decode cX7_help 43 = .ok (.bipush (-5), 2) := by decide +kernel
theorem dX7_help_45 : decode cX7_help 45 = .ok (.ireturn, 1) := by decide +kernel
theorem dX7_help_46 : decode cX7_help 46 = .ok (.aload_n 0, 1) := by decide +kernel
theorem dX7_help_47 : decode cX7_help 47 = .ok (.getfield 119, 3) := by decide +kernel
theorem dX7_help_50 : decode cX7_help 50 = .ok (.istore_n 3, 1) := by decide +kernel
theorem dX7_help_51 : decode cX7_help 51 = .ok (.bipush (-9), 2) := by decide +kernel
theorem dX7_help_53 : decode cX7_help 53 = .ok (.istore 4, 2) := by decide +kernel
theorem dX7_help_55 : decode cX7_help 55 = .ok (.aload_n 0, 1) := by decide +kernel
theorem dX7_help_56 : decode cX7_help 56 = .ok (.getfield 16, 3) := by decide +kernel
theorem dX7_help_59 : decode cX7_help 59 = .ok (.iconst 0, 1) := by decide +kernel
theorem dX7_help_60 : decode cX7_help 60 = .ok (.iaload, 1) := by decide +kernel
theorem dX7_help_61 : decode cX7_help 61 = .ok (.aload_n 0, 1) := by decide +kernel
theorem dX7_help_62 : decode cX7_help 62 = .ok (.getfield 16, 3) := by decide +kernel
theorem dX7_help_65 : decode cX7_help 65 = .ok (.iconst 5, 1) := by decide +kernel
theorem dX7_help_66 : decode cX7_help 66 = .ok (.iaload, 1) := by decide +kernel
theorem dX7_help_67 : decode cX7_help 67 = .ok (.imul, 1) := by decide +kernel
theorem dX7_help_68 : decode cX7_help 68 = .ok (.istore 5, 2) := by decide +kernel
theorem dX7_help_70 : decode cX7_help 70 = .ok (.iconst 0, 1) := by decide +kernel
theorem dX7_help_71 : decode cX7_help 71 = .ok (.istore 6, 2) := by decide +kernel
theorem dX7_help_73 : decode cX7_help 73 = .ok (.iload 6, 2) := by decide +kernel
theorem dX7_help_75 : decode cX7_help 75 = .ok (.iload 5, 2) := by decide +kernel
theorem dX7_help_77 : decode cX7_help 77 = .ok (.if_icmp .ge 103, 3) := by decide +kernel
theorem dX7_help_80 : decode cX7_help 80 = .ok (.iload 4, 2) := by decide +kernel
theorem dX7_help_82 : decode cX7_help 82 = .ok (.bipush (-9), 2) := by decide +kernel
theorem dX7_help_84 : decode cX7_help 84 = .ok (.if_icmp .ne 96, 3) := by decide +kernel
theorem dX7_help_87 : decode cX7_help 87 = .ok (.aload_n 0, 1) := by decide +kernel
theorem dX7_help_88 : decode cX7_help 88 = .ok (.iload 6, 2) := by decide +kernel
theorem dX7_help_90 : decode cX7_help 90 = .ok (.aload_n 0, 1) := by decide +kernel
theorem dX7_help_91 : decode cX7_help 91 = .ok (.getfield 16, 3) := by decide +kernel
theorem dX7_help_94 : decode cX7_help 94 = .ok (.iconst 5, 1) := by decide +kernel
theorem dX7_help_95 : decode cX7_help 95 = .ok (.iaload, 1) := by decide +kernel
theorem dX7_help_96 : decode cX7_help 96 = .ok (.idiv, 1) := by decide +kernel
theorem dX7_help_97 : decode cX7_help 97 = .ok (.iload 6, 2) := by decide +kernel
theorem dX7_help_99 : decode cX7_help 99 = .ok (.aload_n 0, 1) := by decide +kernel
theorem dX7_help_100 : decode cX7_help 100 = .ok (.getfield 16, 3) := by decide +kernel
theorem dX7_help_103 : decode cX7_help 103 = .ok (.iconst 5, 1) := by decide +kernel
theorem dX7_help_104 : decode cX7_help 104 = .ok (.iaload, 1) := by decide +kernel
theorem dX7_help_105 : decode cX7_help 105 = .ok (.irem, 1) := by decide +kernel
theorem dX7_help_106 : decode cX7_help 106 = .ok (.invokevirtual 153, 3) := by decide +kernel
theorem dX7_help_109 : decode cX7_help 109 = .ok (.aload_n 0, 1) := by decide +kernel
theorem dX7_help_110 : decode cX7_help 110 = .ok (.iload_n 1, 1) := by decide +kernel
theorem dX7_help_111 : decode cX7_help 111 = .ok (.aload_n 0, 1) := by decide +kernel
theorem dX7_help_112 : decode cX7_help 112 = .ok (.invokevirtual 178, 3) := by decide +kernel
theorem dX7_help_115 : decode cX7_help 115 = .ok (.invokevirtual 187, 3) := by decide +kernel
theorem dX7_help_118 : decode cX7_help 118 = .ok (.iconst 2, 1) := by decide +kernel
theorem dX7_help_119 : decode cX7_help 119 = .ok (.if_icmp .ne 46, 3) := by decide +kernel
theorem dX7_help_122 : decode cX7_help 122 = .ok (.iload_n 2, 1) := by decide +kernel
theorem dX7_help_123 : decode cX7_help 123 = .ok (.ifCond .ne 7, 3) := by decide +kernel
theorem dX7_help_126 : decode cX7_help 126 = .ok (.iconst 1, 1) := by decide +kernel
theorem dX7_help_127 : decode cX7_help 127 = .ok (.goto 40, 3) := by decide +kernel
theorem dX7_help_130 : decode cX7_help 130 = .ok (.iload_n 2, 1) := by decide +kernel
theorem dX7_help_131 : decode cX7_help 131 = .ok (.iconst 1, 1) := by decide +kernel
theorem dX7_help_132 : decode cX7_help 132 = .ok (.if_icmp .ne 28, 3) := by decide +kernel
theorem dX7_help_135 : decode cX7_help 135 = .ok (.bipush 10, 2) := by decide +kernel
theorem dX7_help_137 : decode cX7_help 137 = .ok (.iload 6, 2) := by decide +kernel
theorem dX7_help_139 : decode cX7_help 139 = .ok (.aload_n 0, 1) := by decide +kernel
theorem dX7_help_140 : decode cX7_help 140 = .ok (.getfield 16, 3) := by decide +kernel
theorem dX7_help_143 : decode cX7_help 143 = .ok (.iconst 5, 1) := by decide +kernel
theorem dX7_help_144 : decode cX7_help 144 = .ok (.iaload, 1) := by decide +kernel
theorem dX7_help_145 : decode cX7_help 145 = .ok (.idiv, 1) := by decide +kernel
theorem dX7_help_146 : decode cX7_help 146 = .ok (.imul, 1) := by decide +kernel
theorem dX7_help_147 : decode cX7_help 147 = .ok (.iload 6, 2) := by decide +kernel
theorem dX7_help_149 : decode cX7_help 149 = .ok (.aload_n 0, 1) := by decide +kernel
theorem dX7_help_150 : decode cX7_help 150 = .ok (.getfield 16, 3) := by decide +kernel
theorem dX7_help_153 : decode cX7_help 153 = .ok (.iconst 5, 1) := by decide +kernel
theorem dX7_help_154 : decode cX7_help 154 = .ok (.iaload, 1) := by decide +kernel
theorem dX7_help_155 : decode cX7_help 155 = .ok (.irem, 1) := by decide +kernel
theorem dX7_help_156 : decode cX7_help 156 = .ok (.iadd, 1) := by decide +kernel
theorem dX7_help_157 : decode cX7_help 157 = .ok (.goto 10, 3) := by decide +kernel
theorem dX7_help_160 : decode cX7_help 160 = .ok (.bipush (-5), 2) := by decide +kernel
theorem dX7_help_162 : decode cX7_help 162 = .ok (.goto 5, 3) := by decide +kernel
theorem dX7_help_165 : decode cX7_help 165 = .ok (.bipush (-9), 2) := by decide +kernel
theorem dX7_help_167 : decode cX7_help 167 = .ok (.istore 4, 2) := by decide +kernel
theorem dX7_help_169 : decode cX7_help 169 = .ok (.aload_n 0, 1) := by decide +kernel
theorem dX7_help_170 : decode cX7_help 170 = .ok (.iload_n 3, 1) := by decide +kernel
theorem dX7_help_171 : decode cX7_help 171 = .ok (.putfield 119, 3) := by decide +kernel
theorem dX7_help_174 : decode cX7_help 174 = .ok (.iinc 6 1, 3) := by decide +kernel
theorem dX7_help_177 : decode cX7_help 177 = .ok (.goto (-104), 3) := by decide +kernel
theorem dX7_help_180 : decode cX7_help 180 = .ok (.iconst 0, 1) := by decide +kernel
theorem dX7_help_181 : decode cX7_help 181 = .ok (.istore 6, 2) := by decide +kernel
theorem dX7_help_183 : decode cX7_help 183 = .ok (.iload 6, 2) := by decide +kernel
theorem dX7_help_185 : decode cX7_help 185 = .ok (.iload 5, 2) := by decide +kernel
theorem dX7_help_187 : decode cX7_help 187 = .ok (.if_icmp .ge 152, 3) := by decide +kernel
theorem dX7_help_190 : decode cX7_help 190 = .ok (.iload 4, 2) := by decide +kernel
theorem dX7_help_192 : decode cX7_help 192 = .ok (.bipush (-9), 2) := by decide +kernel
theorem dX7_help_194 : decode cX7_help 194 = .ok (.if_icmp .ne 145, 3) := by decide +kernel
theorem dX7_help_197 : decode cX7_help 197 = .ok (.iconst 0, 1) := by decide +kernel
theorem dX7_help_198 : decode cX7_help 198 = .ok (.istore 7, 2) := by decide +kernel
theorem dX7_help_200 : decode cX7_help 200 = .ok (.iload 7, 2) := by decide +kernel
theorem dX7_help_202 : decode cX7_help 202 = .ok (.iload 5, 2) := by decide +kernel
theorem dX7_help_204 : decode cX7_help 204 = .ok (.if_icmp .ge 129, 3) := by decide +kernel
theorem dX7_help_207 : decode cX7_help 207 = .ok (.iload 4, 2) := by decide +kernel
theorem dX7_help_209 : decode cX7_help 209 = .ok (.bipush (-9), 2) := by decide +kernel
theorem dX7_help_211 : decode cX7_help 211 = .ok (.if_icmp .ne 122, 3) := by decide +kernel
theorem dX7_help_214 : decode cX7_help 214 = .ok (.aload_n 0, 1) := by decide +kernel
theorem dX7_help_215 : decode cX7_help 215 = .ok (.iload 6, 2) := by decide +kernel
theorem dX7_help_217 : decode cX7_help 217 = .ok (.aload_n 0, 1) := by decide +kernel
theorem dX7_help_218 : decode cX7_help 218 = .ok (.getfield 16, 3) := by decide +kernel
theorem dX7_help_221 : decode cX7_help 221 = .ok (.iconst 5, 1) := by decide +kernel
theorem dX7_help_222 : decode cX7_help 222 = .ok (.iaload, 1) := by decide +kernel
theorem dX7_help_223 : decode cX7_help 223 = .ok (.idiv, 1) := by decide +kernel
theorem dX7_help_224 : decode cX7_help 224 = .ok (.iload 6, 2) := by decide +kernel
theorem dX7_help_226 : decode cX7_help 226 = .ok (.aload_n 0, 1) := by decide +kernel
theorem dX7_help_227 : decode cX7_help 227 = .ok (.getfield 16, 3) := by decide +kernel
theorem dX7_help_230 : decode cX7_help 230 = .ok (.iconst 5, 1) := by decide +kernel
theorem dX7_help_231 : decode cX7_help 231 = .ok (.iaload, 1) := by decide +kernel
theorem dX7_help_232 : decode cX7_help 232 = .ok (.irem, 1) := by decide +kernel
theorem dX7_help_233 : decode cX7_help 233 = .ok (.invokevirtual 153, 3) := by decide +kernel
theorem dX7_help_236 : decode cX7_help 236 = .ok (.aload_n 0, 1) := by decide +kernel
theorem dX7_help_237 : decode cX7_help 237 = .ok (.iload 7, 2) := by decide +kernel
theorem dX7_help_239 : decode cX7_help 239 = .ok (.aload_n 0, 1) := by decide +kernel
theorem dX7_help_240 : decode cX7_help 240 = .ok (.getfield 16, 3) := by decide +kernel
theorem dX7_help_243 : decode cX7_help 243 = .ok (.iconst 5, 1) := by decide +kernel
theorem dX7_help_244 : decode cX7_help 244 = .ok (.iaload, 1) := by decide +kernel
theorem dX7_help_245 : decode cX7_help 245 = .ok (.idiv, 1) := by decide +kernel
theorem dX7_help_246 : decode cX7_help 246 = .ok (.iload 7, 2) := by decide +kernel
theorem dX7_help_248 : decode cX7_help 248 = .ok (.aload_n 0, 1) := by decide +kernel
theorem dX7_help_249 : decode cX7_help 249 = .ok (.getfield 16, 3) := by decide +kernel
theorem dX7_help_252 : decode cX7_help 252 = .ok (.iconst 5, 1) := by decide +kernel
theorem dX7_help_253 : decode cX7_help 253 = .ok (.iaload, 1) := by decide +kernel
theorem dX7_help_254 : decode cX7_help 254 = .ok (.irem, 1) := by decide +kernel
theorem dX7_help_255 : decode cX7_help 255 = .ok (.invokevirtual 153, 3) := by decide +kernel
theorem dX7_help_258 : decode cX7_help 258 = .ok (.iload_n 2, 1) := by decide +kernel
theorem dX7_help_259 : decode cX7_help 259 = .ok (.iconst 1, 1) := by decide +kernel
theorem dX7_help_260 : decode cX7_help 260 = .ok (.if_icmp .ne 8, 3) := by decide +kernel
theorem dX7_help_263 : decode cX7_help 263 = .ok (.iload 6, 2) := by decide +kernel
theorem dX7_help_265 : decode cX7_help 265 = .ok (.goto 5, 3) := by decide +kernel
theorem dX7_help_268 : decode cX7_help 268 = .ok (.iload 7, 2) := by decide +kernel
theorem dX7_help_270 : decode cX7_help 270 = .ok (.istore 8, 2) := by decide +kernel
theorem dX7_help_272 : decode cX7_help 272 = .ok (.aload_n 0, 1) := by decide +kernel
theorem dX7_help_273 : decode cX7_help 273 = .ok (.iload_n 1, 1) := by decide +kernel
theorem dX7_help_274 : decode cX7_help 274 = .ok (.aload_n 0, 1) := by decide +kernel
theorem dX7_help_275 : decode cX7_help 275 = .ok (.invokevirtual 178, 3) := by decide +kernel
theorem dX7_help_278 : decode cX7_help 278 = .ok (.invokevirtual 187, 3) := by decide +kernel
theorem dX7_help_281 : decode cX7_help 281 = .ok (.iconst 2, 1) := by decide +kernel
theorem dX7_help_282 : decode cX7_help 282 = .ok (.if_icmp .ne 36, 3) := by decide +kernel
theorem dX7_help_285 : decode cX7_help 285 = .ok (.iload_n 2, 1) := by decide +kernel
theorem dX7_help_286 : decode cX7_help 286 = .ok (.ifCond .ne 7, 3) := by decide +kernel
theorem dX7_help_289 : decode cX7_help 289 = .ok (.iconst 2, 1) := by decide +kernel
theorem dX7_help_290 : decode cX7_help 290 = .ok (.goto 30, 3) := by decide +kernel
theorem dX7_help_293 : decode cX7_help 293 = .ok (.bipush 10, 2) := by decide +kernel
theorem dX7_help_295 : decode cX7_help 295 = .ok (.iload 8, 2) := by decide +kernel
theorem dX7_help_297 : decode cX7_help 297 = .ok (.aload_n 0, 1) := by decide +kernel
theorem dX7_help_298 : decode cX7_help 298 = .ok (.getfield 16, 3) := by decide +kernel
theorem dX7_help_301 : decode cX7_help 301 = .ok (.iconst 5, 1) := by decide +kernel
theorem dX7_help_302 : decode cX7_help 302 = .ok (.iaload, 1) := by decide +kernel
theorem dX7_help_303 : decode cX7_help 303 = .ok (.idiv, 1) := by decide +kernel
theorem dX7_help_304 : decode cX7_help 304 = .ok (.imul, 1) := by decide +kernel
theorem dX7_help_305 : decode cX7_help 305 = .ok (.iload 8, 2) := by decide +kernel
theorem dX7_help_307 : decode cX7_help 307 = .ok (.aload_n 0, 1) := by decide +kernel
theorem dX7_help_308 : decode cX7_help 308 = .ok (.getfield 16, 3) := by decide +kernel
theorem dX7_help_311 : decode cX7_help 311 = .ok (.iconst 5, 1) := by decide +kernel
theorem dX7_help_312 : decode cX7_help 312 = .ok (.iaload, 1) := by decide +kernel
theorem dX7_help_313 : decode cX7_help 313 = .ok (.irem, 1) := by decide +kernel
theorem dX7_help_314 : decode cX7_help 314 = .ok (.iadd, 1) := by decide +kernel
theorem dX7_help_315 : decode cX7_help 315 = .ok (.goto 5, 3) := by decide +kernel
theorem dX7_help_318 : decode cX7_help 318 = .ok (.bipush (-9), 2) := by decide +kernel
theorem dX7_help_320 : decode cX7_help 320 = .ok (.istore 4, 2) := by decide +kernel
theorem dX7_help_322 : decode cX7_help 322 = .ok (.aload_n 0, 1) := by decide +kernel
theorem dX7_help_323 : decode cX7_help 323 = .ok (.iload_n 3, 1) := by decide +kernel
theorem dX7_help_324 : decode cX7_help 324 = .ok (.putfield 119, 3) := by decide +kernel
theorem dX7_help_327 : decode cX7_help 327 = .ok (.iinc 7 1, 3) := by decide +kernel
theorem dX7_help_330 : decode cX7_help 330 = .ok (.goto (-130), 3) := by decide +kernel
theorem dX7_help_333 : decode cX7_help 333 = .ok (.iinc 6 1, 3) := by decide +kernel
theorem dX7_help_336 : decode cX7_help 336 = .ok (.goto (-153), 3) := by decide +kernel
theorem dX7_help_339 : decode cX7_help 339 = .ok (.iload 4, 2) := by decide +kernel
theorem dX7_help_341 : decode cX7_help 341 = .ok (.ireturn, 1) := by decide +kernel
theorem dX7_strikes_0 : decode cX7_strikes 0 = .ok (.aload_n 0, 1) := by decide +kernel
theorem dX7_strikes_1 : decode cX7_strikes 1 = .ok (.iload_n 2, 1) := by decide +kernel
theorem dX7_strikes_2 : decode cX7_strikes 2 = .ok (.invokevirtual 142, 3) := by decide +kernel
theorem dX7_strikes_5 : decode cX7_strikes 5 = .ok (.ifCond .eq 23, 3) := by decide +kernel
theorem dX7_strikes_8 : decode cX7_strikes 8 = .ok (.iload_n 3, 1) := by decide +kernel
theorem dX7_strikes_9 : decode cX7_strikes 9 = .ok (.i2l, 1) := by decide +kernel
theorem dX7_strikes_10 : decode cX7_strikes 10 = .ok (.lconst 1, 1) := by decide +kernel
theorem dX7_strikes_11 : decode cX7_strikes 11 = .ok (.ldc2_w 190, 3) := by decide +kernel
theorem dX7_strikes_14 : decode cX7_strikes 14 = .ok (.invokestatic 51, 3) := by decide +kernel
theorem dX7_strikes_17 : decode cX7_strikes 17 = .ok (.ifCond .eq 11, 3) := by decide +kernel
theorem dX7_strikes_20 : decode cX7_strikes 20 = .ok (.aload_n 0, 1) := by decide +kernel
theorem dX7_strikes_21 : decode cX7_strikes 21 = .ok (.iload_n 1, 1) := by decide +kernel
theorem dX7_strikes_22 : decode cX7_strikes 22 = .ok (.invokevirtual 184, 3) := by decide +kernel
theorem dX7_strikes_25 : decode cX7_strikes 25 = .ok (.ifCond .ge 6, 3) := by decide +kernel
theorem dX7_strikes_28 : decode cX7_strikes 28 = .ok (.ldc 141, 2) := by decide +kernel
theorem dX7_strikes_30 : decode cX7_strikes 30 = .ok (.ireturn, 1) := by decide +kernel
theorem dX7_strikes_31 : decode cX7_strikes 31 = .ok (.iconst 0, 1) := by decide +kernel
theorem dX7_strikes_32 : decode cX7_strikes 32 = .ok (.istore 4, 2) := by decide +kernel
theorem dX7_strikes_34 : decode cX7_strikes 34 = .ok (.aload_n 0, 1) := by decide +kernel
theorem dX7_strikes_35 : decode cX7_strikes 35 = .ok (.getfield 16, 3) := by decide +kernel
theorem dX7_strikes_38 : decode cX7_strikes 38 = .ok (.bipush 38, 2) := by decide +kernel
theorem dX7_strikes_40 : decode cX7_strikes 40 = .ok (.iconst 3, 1) := by decide +kernel
theorem dX7_strikes_41 : decode cX7_strikes 41 = .ok (.iload_n 2, 1) := by decide +kernel
theorem dX7_strikes_42 : decode cX7_strikes 42 = .ok (.imul, 1) := by decide +kernel
theorem dX7_strikes_43 : decode cX7_strikes 43 = .ok (.iadd, 1) := by decide +kernel
theorem dX7_strikes_44 : decode cX7_strikes 44 = .ok (.iconst 1, 1) := by decide +kernel
theorem dX7_strikes_45 : decode cX7_strikes 45 = .ok (.iadd, 1) := by decide +kernel
theorem dX7_strikes_46 : decode cX7_strikes 46 = .ok (.iaload, 1) := by decide +kernel
theorem dX7_strikes_47 : decode cX7_strikes 47 = .ok (.istore 5, 2) := by decide +kernel
theorem dX7_strikes_49 : decode cX7_strikes 49 = .ok (.iload 5, 2) := by decide +kernel
theorem dX7_strikes_51 : decode cX7_strikes 51 = .ok (.aload_n 0, 1) := by decide +kernel
theorem dX7_strikes_52 : decode cX7_strikes 52 = .ok (.getfield 16, 3) := by decide +kernel
theorem dX7_strikes_55 : decode cX7_strikes 55 = .ok (.bipush 38, 2) := by decide +kernel
theorem dX7_strikes_57 : decode cX7_strikes 57 = .ok (.iconst 3, 1) := by decide +kernel
theorem dX7_strikes_58 : decode cX7_strikes 58 = .ok (.iload_n 2, 1) := by decide +kernel
theorem dX7_strikes_59 : decode cX7_strikes 59 = .ok (.imul, 1) := by decide +kernel
theorem dX7_strikes_60 : decode cX7_strikes 60 = .ok (.iadd, 1) := by decide +kernel
theorem dX7_strikes_61 : decode cX7_strikes 61 = .ok (.iconst 2, 1) := by decide +kernel
theorem dX7_strikes_62 : decode cX7_strikes 62 = .ok (.iadd, 1) := by decide +kernel
theorem dX7_strikes_63 : decode cX7_strikes 63 = .ok (.iaload, 1) := by decide +kernel
theorem dX7_strikes_64 : decode cX7_strikes 64 = .ok (.if_icmp .gt 94, 3) := by decide +kernel
theorem dX7_strikes_67 : decode cX7_strikes 67 = .ok (.aload_n 0, 1) := by decide +kernel
theorem dX7_strikes_68 : decode cX7_strikes 68 = .ok (.aload_n 0, 1) := by decide +kernel
theorem dX7_strikes_69 : decode cX7_strikes 69 = .ok (.getfield 25, 3) := by decide +kernel
theorem dX7_strikes_72 : decode cX7_strikes 72 = .ok (.iload 5, 2) := by decide +kernel
theorem dX7_strikes_74 : decode cX7_strikes 74 = .ok (.iaload, 1) := by decide +kernel
theorem dX7_strikes_75 : decode cX7_strikes 75 = .ok (.iconst 1, 1) := by decide +kernel
theorem dX7_strikes_76 : decode cX7_strikes 76 = .ok (.invokevirtual 128, 3) := by decide +kernel
theorem dX7_strikes_79 : decode cX7_strikes 79 = .ok (.ifCond .ne 73, 3) := by decide +kernel
theorem dX7_strikes_82 : decode cX7_strikes 82 = .ok (.aload_n 0, 1) := by decide +kernel
theorem dX7_strikes_83 : decode cX7_strikes 83 = .ok (.aload_n 0, 1) := by decide +kernel
theorem dX7_strikes_84 : decode cX7_strikes 84 = .ok (.getfield 25, 3) := by decide +kernel
theorem dX7_strikes_87 : decode cX7_strikes 87 = .ok (.iload 5, 2) := by decide +kernel
theorem dX7_strikes_89 : decode cX7_strikes 89 = .ok (.iaload, 1) := by decide +kernel
theorem dX7_strikes_90 : decode cX7_strikes 90 = .ok (.invokevirtual 137, 3) := by decide +kernel
theorem dX7_strikes_93 : decode cX7_strikes 93 = .ok (.istore 6, 2) := by decide +kernel
theorem dX7_strikes_95 : decode cX7_strikes 95 = .ok (.iload 4, 2) := by decide +kernel
theorem dX7_strikes_97 : decode cX7_strikes 97 = .ok (.istore 7, 2) := by decide +kernel
theorem dX7_strikes_99 : decode cX7_strikes 99 = .ok (.iload 7, 2) := by decide +kernel
theorem dX7_strikes_101 : decode cX7_strikes 101 = .ok (.ifCond .le 39, 3) := by decide +kernel
theorem dX7_strikes_104 : decode cX7_strikes 104 = .ok (.aload_n 0, 1) := by decide +kernel
theorem dX7_strikes_105 : decode cX7_strikes 105 = .ok (.getfield 31, 3) := by decide +kernel
theorem dX7_strikes_108 : decode cX7_strikes 108 = .ok (.iload 7, 2) := by decide +kernel
theorem dX7_strikes_110 : decode cX7_strikes 110 = .ok (.iconst 1, 1) := by decide +kernel
theorem dX7_strikes_111 : decode cX7_strikes 111 = .ok (.isub, 1) := by decide +kernel
theorem dX7_strikes_112 : decode cX7_strikes 112 = .ok (.iaload, 1) := by decide +kernel
theorem dX7_strikes_113 : decode cX7_strikes 113 = .ok (.iload 6, 2) := by decide +kernel
theorem dX7_strikes_115 : decode cX7_strikes 115 = .ok (.if_icmp .le 25, 3) := by decide +kernel
theorem dX7_strikes_118 : decode cX7_strikes 118 = .ok (.aload_n 0, 1) := by decide +kernel
theorem dX7_strikes_119 : decode cX7_strikes 119 = .ok (.getfield 31, 3) := by decide +kernel
theorem dX7_strikes_122 : decode cX7_strikes 122 = .ok (.iload 7, 2) := by decide +kernel
theorem dX7_strikes_124 : decode cX7_strikes 124 = .ok (.aload_n 0, 1) := by decide +kernel
theorem dX7_strikes_125 : decode cX7_strikes 125 = .ok (.getfield 31, 3) := by decide +kernel
theorem dX7_strikes_128 : decode cX7_strikes 128 = .ok (.iload 7, 2) := by decide +kernel
theorem dX7_strikes_130 : decode cX7_strikes 130 = .ok (.iconst 1, 1) := by decide +kernel
theorem dX7_strikes_131 : decode cX7_strikes 131 = .ok (.isub, 1) := by decide +kernel
theorem dX7_strikes_132 : decode cX7_strikes 132 = .ok (.iaload, 1) := by decide +kernel
theorem dX7_strikes_133 : decode cX7_strikes 133 = .ok (.iastore, 1) := by decide +kernel
theorem dX7_strikes_134 : decode cX7_strikes 134 = .ok (.iinc 7 (-1), 3) := by decide +kernel
theorem dX7_strikes_137 : decode cX7_strikes 137 = .ok (.goto (-38), 3) := by decide +kernel
theorem dX7_strikes_140 : decode cX7_strikes 140 = .ok (.aload_n 0, 1) := by decide +kernel
theorem dX7_strikes_141 : decode cX7_strikes 141 = .ok (.getfield 31, 3) := by decide +kernel
theorem dX7_strikes_144 : decode cX7_strikes 144 = .ok (.iload 7, 2) := by decide +kernel
theorem dX7_strikes_146 : decode cX7_strikes 146 = .ok (.iload 6, 2) := by decide +kernel
theorem dX7_strikes_148 : decode cX7_strikes 148 = .ok (.iastore, 1) := by decide +kernel
theorem dX7_strikes_149 : decode cX7_strikes 149 = .ok (.iinc 4 1, 3) := by decide +kernel
theorem dX7_strikes_152 : decode cX7_strikes 152 = .ok (.iinc 5 1, 3) := by decide +kernel
theorem dX7_strikes_155 : decode cX7_strikes 155 = .ok (.goto (-106), 3) := by decide +kernel
theorem dX7_strikes_158 : decode cX7_strikes 158 = .ok (.iload 4, 2) := by decide +kernel
theorem dX7_strikes_160 : decode cX7_strikes 160 = .ok (.iload_n 3, 1) := by decide +kernel
theorem dX7_strikes_161 : decode cX7_strikes 161 = .ok (.if_icmp .ge 6, 3) := by decide +kernel
theorem dX7_strikes_164 : decode cX7_strikes 164 = .ok (.ldc 141, 2) := by decide +kernel
theorem dX7_strikes_166 : decode cX7_strikes 166 = .ok (.ireturn, 1) := by decide +kernel
theorem dX7_strikes_167 : decode cX7_strikes 167 = .ok (.iconst 0, 1) := by decide +kernel
theorem dX7_strikes_168 : decode cX7_strikes 168 = .ok (.istore 5, 2) := by decide +kernel
theorem dX7_strikes_170 : decode cX7_strikes 170 = .ok (.iload 4, 2) := by decide +kernel
theorem dX7_strikes_172 : decode cX7_strikes 172 = .ok (.istore 6, 2) := by decide +kernel
theorem dX7_strikes_174 : decode cX7_strikes 174 = .ok (.iconst 0, 1) := by decide +kernel
theorem dX7_strikes_175 : decode cX7_strikes 175 = .ok (.istore 7, 2) := by decide +kernel
theorem dX7_strikes_177 : decode cX7_strikes 177 = .ok (.iload 7, 2) := by decide +kernel
theorem dX7_strikes_179 : decode cX7_strikes 179 = .ok (.iload 4, 2) := by decide +kernel
theorem dX7_strikes_181 : decode cX7_strikes 181 = .ok (.iload_n 3, 1) := by decide +kernel
theorem dX7_strikes_182 : decode cX7_strikes 182 = .ok (.isub, 1) := by decide +kernel
theorem dX7_strikes_183 : decode cX7_strikes 183 = .ok (.if_icmp .ge 43, 3) := by decide +kernel
theorem dX7_strikes_186 : decode cX7_strikes 186 = .ok (.iload 6, 2) := by decide +kernel
theorem dX7_strikes_188 : decode cX7_strikes 188 = .ok (.iload 7, 2) := by decide +kernel
theorem dX7_strikes_190 : decode cX7_strikes 190 = .ok (.iconst 2, 1) := by decide +kernel
theorem dX7_strikes_191 : decode cX7_strikes 191 = .ok (.irem, 1) := by decide +kernel
theorem dX7_strikes_192 : decode cX7_strikes 192 = .ok (.ifCond .ne 7, 3) := by decide +kernel
theorem dX7_strikes_195 : decode cX7_strikes 195 = .ok (.iconst 1, 1) := by decide +kernel
theorem dX7_strikes_196 : decode cX7_strikes 196 = .ok (.goto 4, 3) := by decide +kernel
theorem dX7_strikes_199 : decode cX7_strikes 199 = .ok (.iconst 0, 1) := by decide +kernel
theorem dX7_strikes_200 : decode cX7_strikes 200 = .ok (.isub, 1) := by decide +kernel
theorem dX7_strikes_201 : decode cX7_strikes 201 = .ok (.istore 6, 2) := by decide +kernel
theorem dX7_strikes_203 : decode cX7_strikes 203 = .ok (.iload 5, 2) := by decide +kernel
theorem dX7_strikes_205 : decode cX7_strikes 205 = .ok (.iload 7, 2) := by decide +kernel
theorem dX7_strikes_207 : decode cX7_strikes 207 = .ok (.iconst 2, 1) := by decide +kernel
theorem dX7_strikes_208 : decode cX7_strikes 208 = .ok (.irem, 1) := by decide +kernel
theorem dX7_strikes_209 : decode cX7_strikes 209 = .ok (.ifCond .ne 7, 3) := by decide +kernel
theorem dX7_strikes_212 : decode cX7_strikes 212 = .ok (.iconst 0, 1) := by decide +kernel
theorem dX7_strikes_213 : decode cX7_strikes 213 = .ok (.goto 4, 3) := by decide +kernel
theorem dX7_strikes_216 : decode cX7_strikes 216 = .ok (.iconst 1, 1) := by decide +kernel
theorem dX7_strikes_217 : decode cX7_strikes 217 = .ok (.iadd, 1) := by decide +kernel
theorem dX7_strikes_218 : decode cX7_strikes 218 = .ok (.istore 5, 2) := by decide +kernel
theorem dX7_strikes_220 : decode cX7_strikes 220 = .ok (.iinc 7 1, 3) := by decide +kernel
theorem dX7_strikes_223 : decode cX7_strikes 223 = .ok (.goto (-46), 3) := by decide +kernel
theorem dX7_strikes_226 : decode cX7_strikes 226 = .ok (.iconst 0, 1) := by decide +kernel
theorem dX7_strikes_227 : decode cX7_strikes 227 = .ok (.istore 7, 2) := by decide +kernel
theorem dX7_strikes_229 : decode cX7_strikes 229 = .ok (.iload 5, 2) := by decide +kernel
theorem dX7_strikes_231 : decode cX7_strikes 231 = .ok (.istore 8, 2) := by decide +kernel
theorem dX7_strikes_233 : decode cX7_strikes 233 = .ok (.iload 8, 2) := by decide +kernel
theorem dX7_strikes_235 : decode cX7_strikes 235 = .ok (.iload 6, 2) := by decide +kernel
theorem dX7_strikes_237 : decode cX7_strikes 237 = .ok (.if_icmp .ge 21, 3) := by decide +kernel
theorem dX7_strikes_240 : decode cX7_strikes 240 = .ok (.iload 7, 2) := by decide +kernel
theorem dX7_strikes_242 : decode cX7_strikes 242 = .ok (.aload_n 0, 1) := by decide +kernel
theorem dX7_strikes_243 : decode cX7_strikes 243 = .ok (.getfield 31, 3) := by decide +kernel
theorem dX7_strikes_246 : decode cX7_strikes 246 = .ok (.iload 8, 2) := by decide +kernel
theorem dX7_strikes_248 : decode cX7_strikes 248 = .ok (.iaload, 1) := by decide +kernel
theorem dX7_strikes_249 : decode cX7_strikes 249 = .ok (.iadd, 1) := by decide +kernel
theorem dX7_strikes_250 : decode cX7_strikes 250 = .ok (.istore 7, 2) := by decide +kernel
theorem dX7_strikes_252 : decode cX7_strikes 252 = .ok (.iinc 8 1, 3) := by decide +kernel
theorem dX7_strikes_255 : decode cX7_strikes 255 = .ok (.goto (-22), 3) := by decide +kernel
theorem dX7_strikes_258 : decode cX7_strikes 258 = .ok (.iload 7, 2) := by decide +kernel
theorem dX7_strikes_260 : decode cX7_strikes 260 = .ok (.ireturn, 1) := by decide +kernel
theorem dX7_innocent_0 : decode cX7_innocent 0 = .ok (.aload_n 0, 1) := by decide +kernel
theorem dX7_innocent_1 : decode cX7_innocent 1 = .ok (.iload_n 1, 1) := by decide +kernel
theorem dX7_innocent_2 : decode cX7_innocent 2 = .ok (.invokevirtual 142, 3) := by decide +kernel
theorem dX7_innocent_5 : decode cX7_innocent 5 = .ok (.ifCond .ne 5, 3) := by decide +kernel
theorem dX7_innocent_8 : decode cX7_innocent 8 = .ok (.iconst (-1), 1) := by decide +kernel
theorem dX7_innocent_9 : decode cX7_innocent 9 = .ok (.ireturn, 1) := by decide +kernel
theorem dX7_innocent_10 : decode cX7_innocent 10 = .ok (.iconst 0, 1) := by decide +kernel
theorem dX7_innocent_11 : decode cX7_innocent 11 = .ok (.istore_n 2, 1) := by decide +kernel
theorem dX7_innocent_12 : decode cX7_innocent 12 = .ok (.iconst 0, 1) := by decide +kernel
theorem dX7_innocent_13 : decode cX7_innocent 13 = .ok (.istore_n 3, 1) := by decide +kernel
theorem dX7_innocent_14 : decode cX7_innocent 14 = .ok (.iload_n 3, 1) := by decide +kernel
theorem dX7_innocent_15 : decode cX7_innocent 15 = .ok (.aload_n 0, 1) := by decide +kernel
theorem dX7_innocent_16 : decode cX7_innocent 16 = .ok (.getfield 16, 3) := by decide +kernel
theorem dX7_innocent_19 : decode cX7_innocent 19 = .ok (.iconst 1, 1) := by decide +kernel
theorem dX7_innocent_20 : decode cX7_innocent 20 = .ok (.iaload, 1) := by decide +kernel
theorem dX7_innocent_21 : decode cX7_innocent 21 = .ok (.if_icmp .ge 29, 3) := by decide +kernel
theorem dX7_innocent_24 : decode cX7_innocent 24 = .ok (.iload_n 2, 1) := by decide +kernel
theorem dX7_innocent_25 : decode cX7_innocent 25 = .ok (.aload_n 0, 1) := by decide +kernel
theorem dX7_innocent_26 : decode cX7_innocent 26 = .ok (.iload_n 1, 1) := by decide +kernel
theorem dX7_innocent_27 : decode cX7_innocent 27 = .ok (.iload_n 3, 1) := by decide +kernel
theorem dX7_innocent_28 : decode cX7_innocent 28 = .ok (.invokevirtual 187, 3) := by decide +kernel
theorem dX7_innocent_31 : decode cX7_innocent 31 = .ok (.iconst 2, 1) := by decide +kernel
theorem dX7_innocent_32 : decode cX7_innocent 32 = .ok (.if_icmp .ne 9, 3) := by decide +kernel
theorem dX7_innocent_35 : decode cX7_innocent 35 = .ok (.iconst 1, 1) := by decide +kernel
theorem dX7_innocent_36 : decode cX7_innocent 36 = .ok (.iload_n 3, 1) := by decide +kernel
theorem dX7_innocent_37 : decode cX7_innocent 37 = .ok (.ishl, 1) := by decide +kernel
theorem dX7_innocent_38 : decode cX7_innocent 38 = .ok (.goto 4, 3) := by decide +kernel
theorem dX7_innocent_41 : decode cX7_innocent 41 = .ok (.iconst 0, 1) := by decide +kernel
theorem dX7_innocent_42 : decode cX7_innocent 42 = .ok (.ior, 1) := by decide +kernel
theorem dX7_innocent_43 : decode cX7_innocent 43 = .ok (.istore_n 2, 1) := by decide +kernel
theorem dX7_innocent_44 : decode cX7_innocent 44 = .ok (.iinc 3 1, 3) := by decide +kernel
theorem dX7_innocent_47 : decode cX7_innocent 47 = .ok (.goto (-33), 3) := by decide +kernel
theorem dX7_innocent_50 : decode cX7_innocent 50 = .ok (.iload_n 2, 1) := by decide +kernel
theorem dX7_innocent_51 : decode cX7_innocent 51 = .ok (.ireturn, 1) := by decide +kernel
theorem dX7_many_0 : decode cX7_many 0 = .ok (.iconst 0, 1) := by decide +kernel
theorem dX7_many_1 : decode cX7_many 1 = .ok (.istore_n 1, 1) := by decide +kernel
theorem dX7_many_2 : decode cX7_many 2 = .ok (.iload_n 0, 1) := by decide +kernel
theorem dX7_many_3 : decode cX7_many 3 = .ok (.istore_n 2, 1) := by decide +kernel
theorem dX7_many_4 : decode cX7_many 4 = .ok (.iload_n 2, 1) := by decide +kernel
theorem dX7_many_5 : decode cX7_many 5 = .ok (.ifCond .eq 15, 3) := by decide +kernel
theorem dX7_many_8 : decode cX7_many 8 = .ok (.iinc 1 1, 3) := by decide +kernel
theorem dX7_many_11 : decode cX7_many 11 = .ok (.iload_n 2, 1) := by decide +kernel
theorem dX7_many_12 : decode cX7_many 12 = .ok (.iload_n 2, 1) := by decide +kernel
theorem dX7_many_13 : decode cX7_many 13 = .ok (.iconst 1, 1) := by decide +kernel
theorem dX7_many_14 : decode cX7_many 14 = .ok (.isub, 1) := by decide +kernel
theorem dX7_many_15 : decode cX7_many 15 = .ok (.iand, 1) := by decide +kernel
theorem dX7_many_16 : decode cX7_many 16 = .ok (.istore_n 2, 1) := by decide +kernel
theorem dX7_many_17 : decode cX7_many 17 = .ok (.goto (-13), 3) := by decide +kernel
theorem dX7_many_20 : decode cX7_many 20 = .ok (.iload_n 1, 1) := by decide +kernel
theorem dX7_many_21 : decode cX7_many 21 = .ok (.ireturn, 1) := by decide +kernel
theorem dX7_common_0 : decode cX7_common 0 = .ok (.iload_n 0, 1) := by decide +kernel
theorem dX7_common_1 : decode cX7_common 1 = .ok (.istore_n 2, 1) := by decide +kernel
theorem dX7_common_2 : decode cX7_common 2 = .ok (.iload_n 1, 1) := by decide +kernel
theorem dX7_common_3 : decode cX7_common 3 = .ok (.istore_n 3, 1) := by decide +kernel
theorem dX7_common_4 : decode cX7_common 4 = .ok (.iload_n 3, 1) := by decide +kernel
theorem dX7_common_5 : decode cX7_common 5 = .ok (.ifCond .eq 16, 3) := by decide +kernel
theorem dX7_common_8 : decode cX7_common 8 = .ok (.iload_n 2, 1) := by decide +kernel
theorem dX7_common_9 : decode cX7_common 9 = .ok (.iload_n 3, 1) := by decide +kernel
theorem dX7_common_10 : decode cX7_common 10 = .ok (.irem, 1) := by decide +kernel
theorem dX7_common_11 : decode cX7_common 11 = .ok (.istore 4, 2) := by decide +kernel
theorem dX7_common_13 : decode cX7_common 13 = .ok (.iload_n 3, 1) := by decide +kernel
theorem dX7_common_14 : decode cX7_common 14 = .ok (.istore_n 2, 1) := by decide +kernel
theorem dX7_common_15 : decode cX7_common 15 = .ok (.iload 4, 2) := by decide +kernel
theorem dX7_common_17 : decode cX7_common 17 = .ok (.istore_n 3, 1) := by decide +kernel
theorem dX7_common_18 : decode cX7_common 18 = .ok (.goto (-14), 3) := by decide +kernel
theorem dX7_common_21 : decode cX7_common 21 = .ok (.iload_n 2, 1) := by decide +kernel
theorem dX7_common_22 : decode cX7_common 22 = .ok (.ireturn, 1) := by decide +kernel
theorem dX7_odds_0 : decode cX7_odds 0 = .ok (.aload_n 0, 1) := by decide +kernel
theorem dX7_odds_1 : decode cX7_odds 1 = .ok (.iload_n 1, 1) := by decide +kernel
theorem dX7_odds_2 : decode cX7_odds 2 = .ok (.invokevirtual 142, 3) := by decide +kernel
theorem dX7_odds_5 : decode cX7_odds 5 = .ok (.ifCond .eq 13, 3) := by decide +kernel
theorem dX7_odds_8 : decode cX7_odds 8 = .ok (.iload_n 2, 1) := by decide +kernel
theorem dX7_odds_9 : decode cX7_odds 9 = .ok (.i2l, 1) := by decide +kernel
theorem dX7_odds_10 : decode cX7_odds 10 = .ok (.lconst 0, 1) := by decide +kernel
theorem dX7_odds_11 : decode cX7_odds 11 = .ok (.lconst 1, 1) := by decide +kernel
theorem dX7_odds_12 : decode cX7_odds 12 = .ok (.invokestatic 51, 3) := by decide +kernel
theorem dX7_odds_15 : decode cX7_odds 15 = .ok (.ifCond .ne 5, 3) := by decide +kernel
theorem dX7_odds_18 : decode cX7_odds 18 = .ok (.iconst (-1), 1) := by decide +kernel
theorem dX7_odds_19 : decode cX7_odds 19 = .ok (.ireturn, 1) := by decide +kernel
theorem dX7_odds_20 : decode cX7_odds 20 = .ok (.aload_n 0, 1) := by decide +kernel
theorem dX7_odds_21 : decode cX7_odds 21 = .ok (.getfield 16, 3) := by decide +kernel
theorem dX7_odds_24 : decode cX7_odds 24 = .ok (.iconst 1, 1) := by decide +kernel
theorem dX7_odds_25 : decode cX7_odds 25 = .ok (.iaload, 1) := by decide +kernel
theorem dX7_odds_26 : decode cX7_odds 26 = .ok (.ifCond .ne 6, 3) := by decide +kernel
theorem dX7_odds_29 : decode cX7_odds 29 = .ok (.bipush (-2), 2) := by decide +kernel
theorem dX7_odds_31 : decode cX7_odds 31 = .ok (.ireturn, 1) := by decide +kernel
theorem dX7_odds_32 : decode cX7_odds 32 = .ok (.aload_n 0, 1) := by decide +kernel
theorem dX7_odds_33 : decode cX7_odds 33 = .ok (.iload_n 1, 1) := by decide +kernel
theorem dX7_odds_34 : decode cX7_odds 34 = .ok (.invokevirtual 192, 3) := by decide +kernel
theorem dX7_odds_37 : decode cX7_odds 37 = .ok (.invokestatic 195, 3) := by decide +kernel
theorem dX7_odds_40 : decode cX7_odds 40 = .ok (.istore_n 3, 1) := by decide +kernel
theorem dX7_odds_41 : decode cX7_odds 41 = .ok (.iload_n 3, 1) := by decide +kernel
theorem dX7_odds_42 : decode cX7_odds 42 = .ok (.aload_n 0, 1) := by decide +kernel
theorem dX7_odds_43 : decode cX7_odds 43 = .ok (.getfield 16, 3) := by decide +kernel
theorem dX7_odds_46 : decode cX7_odds 46 = .ok (.iconst 1, 1) := by decide +kernel
theorem dX7_odds_47 : decode cX7_odds 47 = .ok (.iaload, 1) := by decide +kernel
theorem dX7_odds_48 : decode cX7_odds 48 = .ok (.invokestatic 198, 3) := by decide +kernel
theorem dX7_odds_51 : decode cX7_odds 51 = .ok (.istore 4, 2) := by decide +kernel
theorem dX7_odds_53 : decode cX7_odds 53 = .ok (.iload_n 2, 1) := by decide +kernel
theorem dX7_odds_54 : decode cX7_odds 54 = .ok (.ifCond .ne 10, 3) := by decide +kernel
theorem dX7_odds_57 : decode cX7_odds 57 = .ok (.iload_n 3, 1) := by decide +kernel
theorem dX7_odds_58 : decode cX7_odds 58 = .ok (.iload 4, 2) := by decide +kernel
theorem dX7_odds_60 : decode cX7_odds 60 = .ok (.idiv, 1) := by decide +kernel
theorem dX7_odds_61 : decode cX7_odds 61 = .ok (.goto 12, 3) := by decide +kernel
theorem dX7_odds_64 : decode cX7_odds 64 = .ok (.aload_n 0, 1) := by decide +kernel
theorem dX7_odds_65 : decode cX7_odds 65 = .ok (.getfield 16, 3) := by decide +kernel
theorem dX7_odds_68 : decode cX7_odds 68 = .ok (.iconst 1, 1) := by decide +kernel
theorem dX7_odds_69 : decode cX7_odds 69 = .ok (.iaload, 1) := by decide +kernel
theorem dX7_odds_70 : decode cX7_odds 70 = .ok (.iload 4, 2) := by decide +kernel
theorem dX7_odds_72 : decode cX7_odds 72 = .ok (.idiv, 1) := by decide +kernel
theorem dX7_odds_73 : decode cX7_odds 73 = .ok (.ireturn, 1) := by decide +kernel
theorem dX7_saw_0 : decode cX7_saw 0 = .ok (.aload_n 0, 1) := by decide +kernel
theorem dX7_saw_1 : decode cX7_saw 1 = .ok (.iload_n 1, 1) := by decide +kernel
theorem dX7_saw_2 : decode cX7_saw 2 = .ok (.invokevirtual 147, 3) := by decide +kernel
theorem dX7_saw_5 : decode cX7_saw 5 = .ok (.ifCond .eq 11, 3) := by decide +kernel
theorem dX7_saw_8 : decode cX7_saw 8 = .ok (.aload_n 0, 1) := by decide +kernel
theorem dX7_saw_9 : decode cX7_saw 9 = .ok (.iload_n 2, 1) := by decide +kernel
theorem dX7_saw_10 : decode cX7_saw 10 = .ok (.invokevirtual 132, 3) := by decide +kernel
theorem dX7_saw_13 : decode cX7_saw 13 = .ok (.ifCond .ne 5, 3) := by decide +kernel
theorem dX7_saw_16 : decode cX7_saw 16 = .ok (.iconst (-1), 1) := by decide +kernel
theorem dX7_saw_17 : decode cX7_saw 17 = .ok (.ireturn, 1) := by decide +kernel
theorem dX7_saw_18 : decode cX7_saw 18 = .ok (.aload_n 0, 1) := by decide +kernel
theorem dX7_saw_19 : decode cX7_saw 19 = .ok (.getfield 125, 3) := by decide +kernel
theorem dX7_saw_22 : decode cX7_saw 22 = .ok (.bipush 6, 2) := by decide +kernel
theorem dX7_saw_24 : decode cX7_saw 24 = .ok (.if_icmp .ne 6, 3) := by decide +kernel
theorem dX7_saw_27 : decode cX7_saw 27 = .ok (.bipush (-3), 2) := by decide +kernel
theorem dX7_saw_29 : decode cX7_saw 29 = .ok (.ireturn, 1) := by decide +kernel
theorem dX7_saw_30 : decode cX7_saw 30 = .ok (.aload_n 0, 1) := by decide +kernel
theorem dX7_saw_31 : decode cX7_saw 31 = .ok (.getfield 34, 3) := by decide +kernel
theorem dX7_saw_34 : decode cX7_saw 34 = .ok (.aload_n 0, 1) := by decide +kernel
theorem dX7_saw_35 : decode cX7_saw 35 = .ok (.getfield 125, 3) := by decide +kernel
theorem dX7_saw_38 : decode cX7_saw 38 = .ok (.iload_n 1, 1) := by decide +kernel
theorem dX7_saw_39 : decode cX7_saw 39 = .ok (.iastore, 1) := by decide +kernel
theorem dX7_saw_40 : decode cX7_saw 40 = .ok (.aload_n 0, 1) := by decide +kernel
theorem dX7_saw_41 : decode cX7_saw 41 = .ok (.getfield 37, 3) := by decide +kernel
theorem dX7_saw_44 : decode cX7_saw 44 = .ok (.aload_n 0, 1) := by decide +kernel
theorem dX7_saw_45 : decode cX7_saw 45 = .ok (.getfield 125, 3) := by decide +kernel
theorem dX7_saw_48 : decode cX7_saw 48 = .ok (.iload_n 2, 1) := by decide +kernel
theorem dX7_saw_49 : decode cX7_saw 49 = .ok (.iastore, 1) := by decide +kernel
theorem dX7_saw_50 : decode cX7_saw 50 = .ok (.aload_n 0, 1) := by decide +kernel
theorem dX7_saw_51 : decode cX7_saw 51 = .ok (.dup, 1) := by decide +kernel
theorem dX7_saw_52 : decode cX7_saw 52 = .ok (.getfield 125, 3) := by decide +kernel
theorem dX7_saw_55 : decode cX7_saw 55 = .ok (.iconst 1, 1) := by decide +kernel
theorem dX7_saw_56 : decode cX7_saw 56 = .ok (.iadd, 1) := by decide +kernel
theorem dX7_saw_57 : decode cX7_saw 57 = .ok (.putfield 125, 3) := by decide +kernel
theorem dX7_saw_60 : decode cX7_saw 60 = .ok (.aload_n 0, 1) := by decide +kernel
theorem dX7_saw_61 : decode cX7_saw 61 = .ok (.getfield 125, 3) := by decide +kernel
theorem dX7_saw_64 : decode cX7_saw 64 = .ok (.ireturn, 1) := by decide +kernel
theorem dX7_forget_0 : decode cX7_forget 0 = .ok (.aload_n 0, 1) := by decide +kernel
theorem dX7_forget_1 : decode cX7_forget 1 = .ok (.getfield 125, 3) := by decide +kernel
theorem dX7_forget_4 : decode cX7_forget 4 = .ok (.istore_n 1, 1) := by decide +kernel
theorem dX7_forget_5 : decode cX7_forget 5 = .ok (.aload_n 0, 1) := by decide +kernel
theorem dX7_forget_6 : decode cX7_forget 6 = .ok (.iconst 0, 1) := by decide +kernel
theorem dX7_forget_7 : decode cX7_forget 7 = .ok (.putfield 125, 3) := by decide +kernel
theorem dX7_forget_10 : decode cX7_forget 10 = .ok (.iload_n 1, 1) := by decide +kernel
theorem dX7_forget_11 : decode cX7_forget 11 = .ok (.ireturn, 1) := by decide +kernel
theorem dX7_fits_0 : decode cX7_fits 0 = .ok (.iconst 0, 1) := by decide +kernel
theorem dX7_fits_1 : decode cX7_fits 1 = .ok (.istore_n 1, 1) := by decide +kernel
theorem dX7_fits_2 : decode cX7_fits 2 = .ok (.iconst 0, 1) := by decide +kernel
theorem dX7_fits_3 : decode cX7_fits 3 = .ok (.istore_n 2, 1) := by decide +kernel
theorem dX7_fits_4 : decode cX7_fits 4 = .ok (.iload_n 2, 1) := by decide +kernel
theorem dX7_fits_5 : decode cX7_fits 5 = .ok (.aload_n 0, 1) := by decide +kernel
theorem dX7_fits_6 : decode cX7_fits 6 = .ok (.getfield 16, 3) := by decide +kernel
theorem dX7_fits_9 : decode cX7_fits 9 = .ok (.iconst 1, 1) := by decide +kernel
theorem dX7_fits_10 : decode cX7_fits 10 = .ok (.iaload, 1) := by decide +kernel
theorem dX7_fits_11 : decode cX7_fits 11 = .ok (.if_icmp .ge 106, 3) := by decide +kernel
theorem dX7_fits_14 : decode cX7_fits 14 = .ok (.iconst 0, 1) := by decide +kernel
theorem dX7_fits_15 : decode cX7_fits 15 = .ok (.istore_n 3, 1) := by decide +kernel
theorem dX7_fits_16 : decode cX7_fits 16 = .ok (.iload_n 3, 1) := by decide +kernel
theorem dX7_fits_17 : decode cX7_fits 17 = .ok (.aload_n 0, 1) := by decide +kernel
theorem dX7_fits_18 : decode cX7_fits 18 = .ok (.invokevirtual 170, 3) := by decide +kernel
theorem dX7_fits_21 : decode cX7_fits 21 = .ok (.if_icmp .ge 90, 3) := by decide +kernel
theorem dX7_fits_24 : decode cX7_fits 24 = .ok (.aload_n 0, 1) := by decide +kernel
theorem dX7_fits_25 : decode cX7_fits 25 = .ok (.iload_n 3, 1) := by decide +kernel
theorem dX7_fits_26 : decode cX7_fits 26 = .ok (.iload_n 2, 1) := by decide +kernel
theorem dX7_fits_27 : decode cX7_fits 27 = .ok (.aload_n 0, 1) := by decide +kernel
theorem dX7_fits_28 : decode cX7_fits 28 = .ok (.getfield 16, 3) := by decide +kernel
theorem dX7_fits_31 : decode cX7_fits 31 = .ok (.iconst 4, 1) := by decide +kernel
theorem dX7_fits_32 : decode cX7_fits 32 = .ok (.iaload, 1) := by decide +kernel
theorem dX7_fits_33 : decode cX7_fits 33 = .ok (.invokevirtual 174, 3) := by decide +kernel
theorem dX7_fits_36 : decode cX7_fits 36 = .ok (.istore 4, 2) := by decide +kernel
theorem dX7_fits_38 : decode cX7_fits 38 = .ok (.iconst 0, 1) := by decide +kernel
theorem dX7_fits_39 : decode cX7_fits 39 = .ok (.istore 5, 2) := by decide +kernel
theorem dX7_fits_41 : decode cX7_fits 41 = .ok (.iload 5, 2) := by decide +kernel
theorem dX7_fits_43 : decode cX7_fits 43 = .ok (.aload_n 0, 1) := by decide +kernel
theorem dX7_fits_44 : decode cX7_fits 44 = .ok (.getfield 125, 3) := by decide +kernel
theorem dX7_fits_47 : decode cX7_fits 47 = .ok (.if_icmp .ge 43, 3) := by decide +kernel
theorem dX7_fits_50 : decode cX7_fits 50 = .ok (.iload 4, 2) := by decide +kernel
theorem dX7_fits_52 : decode cX7_fits 52 = .ok (.ifCond .eq 29, 3) := by decide +kernel
theorem dX7_fits_55 : decode cX7_fits 55 = .ok (.aload_n 0, 1) := by decide +kernel
theorem dX7_fits_56 : decode cX7_fits 56 = .ok (.getfield 25, 3) := by decide +kernel
theorem dX7_fits_59 : decode cX7_fits 59 = .ok (.aload_n 0, 1) := by decide +kernel
theorem dX7_fits_60 : decode cX7_fits 60 = .ok (.getfield 34, 3) := by decide +kernel
theorem dX7_fits_63 : decode cX7_fits 63 = .ok (.iload 5, 2) := by decide +kernel
theorem dX7_fits_65 : decode cX7_fits 65 = .ok (.iaload, 1) := by decide +kernel
theorem dX7_fits_66 : decode cX7_fits 66 = .ok (.iaload, 1) := by decide +kernel
theorem dX7_fits_67 : decode cX7_fits 67 = .ok (.aload_n 0, 1) := by decide +kernel
theorem dX7_fits_68 : decode cX7_fits 68 = .ok (.getfield 37, 3) := by decide +kernel
theorem dX7_fits_71 : decode cX7_fits 71 = .ok (.iload 5, 2) := by decide +kernel
theorem dX7_fits_73 : decode cX7_fits 73 = .ok (.iaload, 1) := by decide +kernel
theorem dX7_fits_74 : decode cX7_fits 74 = .ok (.if_icmp .ne 7, 3) := by decide +kernel
theorem dX7_fits_77 : decode cX7_fits 77 = .ok (.iconst 1, 1) := by decide +kernel
theorem dX7_fits_78 : decode cX7_fits 78 = .ok (.goto 4, 3) := by decide +kernel
theorem dX7_fits_81 : decode cX7_fits 81 = .ok (.iconst 0, 1) := by decide +kernel
theorem dX7_fits_82 : decode cX7_fits 82 = .ok (.istore 4, 2) := by decide +kernel
theorem dX7_fits_84 : decode cX7_fits 84 = .ok (.iinc 5 1, 3) := by decide +kernel
theorem dX7_fits_87 : decode cX7_fits 87 = .ok (.goto (-46), 3) := by decide +kernel
theorem dX7_fits_90 : decode cX7_fits 90 = .ok (.iload_n 1, 1) := by decide +kernel
theorem dX7_fits_91 : decode cX7_fits 91 = .ok (.iload 4, 2) := by decide +kernel
theorem dX7_fits_93 : decode cX7_fits 93 = .ok (.ifCond .eq 9, 3) := by decide +kernel
theorem dX7_fits_96 : decode cX7_fits 96 = .ok (.iconst 1, 1) := by decide +kernel
theorem dX7_fits_97 : decode cX7_fits 97 = .ok (.iload_n 2, 1) := by decide +kernel
theorem dX7_fits_98 : decode cX7_fits 98 = .ok (.ishl, 1) := by decide +kernel
theorem dX7_fits_99 : decode cX7_fits 99 = .ok (.goto 4, 3) := by decide +kernel
theorem dX7_fits_102 : decode cX7_fits 102 = .ok (.iconst 0, 1) := by decide +kernel
theorem dX7_fits_103 : decode cX7_fits 103 = .ok (.ior, 1) := by decide +kernel
theorem dX7_fits_104 : decode cX7_fits 104 = .ok (.istore_n 1, 1) := by decide +kernel
theorem dX7_fits_105 : decode cX7_fits 105 = .ok (.iinc 3 1, 3) := by decide +kernel
theorem dX7_fits_108 : decode cX7_fits 108 = .ok (.goto (-92), 3) := by decide +kernel
theorem dX7_fits_111 : decode cX7_fits 111 = .ok (.iinc 2 1, 3) := by decide +kernel
theorem dX7_fits_114 : decode cX7_fits 114 = .ok (.goto (-110), 3) := by decide +kernel
theorem dX7_fits_117 : decode cX7_fits 117 = .ok (.iload_n 1, 1) := by decide +kernel
theorem dX7_fits_118 : decode cX7_fits 118 = .ok (.ireturn, 1) := by decide +kernel
theorem dX7_quorum_0 : decode cX7_quorum 0 = .ok (.iload_n 1, 1) := by decide +kernel
theorem dX7_quorum_1 : decode cX7_quorum 1 = .ok (.i2l, 1) := by decide +kernel
theorem dX7_quorum_2 : decode cX7_quorum 2 = .ok (.lconst 1, 1) := by decide +kernel
theorem dX7_quorum_3 : decode cX7_quorum 3 = .ok (.ldc2_w 190, 3) := by decide +kernel
theorem dX7_quorum_6 : decode cX7_quorum 6 = .ok (.invokestatic 51, 3) := by decide +kernel
theorem dX7_quorum_9 : decode cX7_quorum 9 = .ok (.ifCond .eq 15, 3) := by decide +kernel
theorem dX7_quorum_12 : decode cX7_quorum 12 = .ok (.aload_n 0, 1) := by decide +kernel
theorem dX7_quorum_13 : decode cX7_quorum 13 = .ok (.aload_n 0, 1) := by decide +kernel
theorem dX7_quorum_14 : decode cX7_quorum 14 = .ok (.invokevirtual 178, 3) := by decide +kernel
theorem dX7_quorum_17 : decode cX7_quorum 17 = .ok (.iload_n 1, 1) := by decide +kernel
theorem dX7_quorum_18 : decode cX7_quorum 18 = .ok (.invokevirtual 181, 3) := by decide +kernel
theorem dX7_quorum_21 : decode cX7_quorum 21 = .ok (.goto 4, 3) := by decide +kernel
theorem dX7_quorum_24 : decode cX7_quorum 24 = .ok (.iconst (-1), 1) := by decide +kernel
theorem dX7_quorum_25 : decode cX7_quorum 25 = .ok (.ireturn, 1) := by decide +kernel
theorem dX7_mark_0 : decode cX7_mark 0 = .ok (.iload_n 1, 1) := by decide +kernel
theorem dX7_mark_1 : decode cX7_mark 1 = .ok (.i2l, 1) := by decide +kernel
theorem dX7_mark_2 : decode cX7_mark 2 = .ok (.lconst 0, 1) := by decide +kernel
theorem dX7_mark_3 : decode cX7_mark 3 = .ok (.ldc2_w 201, 3) := by decide +kernel
theorem dX7_mark_6 : decode cX7_mark 6 = .ok (.invokestatic 51, 3) := by decide +kernel
theorem dX7_mark_9 : decode cX7_mark 9 = .ok (.ifCond .eq 11, 3) := by decide +kernel
theorem dX7_mark_12 : decode cX7_mark 12 = .ok (.aload_n 0, 1) := by decide +kernel
theorem dX7_mark_13 : decode cX7_mark 13 = .ok (.iload_n 2, 1) := by decide +kernel
theorem dX7_mark_14 : decode cX7_mark 14 = .ok (.invokevirtual 132, 3) := by decide +kernel
theorem dX7_mark_17 : decode cX7_mark 17 = .ok (.ifCond .ne 6, 3) := by decide +kernel
theorem dX7_mark_20 : decode cX7_mark 20 = .ok (.ldc 141, 2) := by decide +kernel
theorem dX7_mark_22 : decode cX7_mark 22 = .ok (.ireturn, 1) := by decide +kernel
theorem dX7_mark_23 : decode cX7_mark 23 = .ok (.aload_n 0, 1) := by decide +kernel
theorem dX7_mark_24 : decode cX7_mark 24 = .ok (.dup, 1) := by decide +kernel
theorem dX7_mark_25 : decode cX7_mark 25 = .ok (.getfield 203, 3) := by decide +kernel
theorem dX7_mark_28 : decode cX7_mark 28 = .ok (.iload_n 1, 1) := by decide +kernel
theorem dX7_mark_29 : decode cX7_mark 29 = .ok (.ifCond .ne 7, 3) := by decide +kernel
theorem dX7_mark_32 : decode cX7_mark 32 = .ok (.lconst 1, 1) := by decide +kernel
theorem dX7_mark_33 : decode cX7_mark 33 = .ok (.goto 50, 3) := by decide +kernel
theorem dX7_mark_36 : decode cX7_mark 36 = .ok (.iload_n 1, 1) := by decide +kernel
theorem dX7_mark_37 : decode cX7_mark 37 = .ok (.iconst 1, 1) := by decide +kernel
theorem dX7_mark_38 : decode cX7_mark 38 = .ok (.if_icmp .ne 9, 3) := by decide +kernel
theorem dX7_mark_41 : decode cX7_mark 41 = .ok (.ldc2_w 207, 3) := by decide +kernel
theorem dX7_mark_44 : decode cX7_mark 44 = .ok (.goto 39, 3) := by decide +kernel
theorem dX7_mark_47 : decode cX7_mark 47 = .ok (.iload_n 1, 1) := by decide +kernel
theorem dX7_mark_48 : decode cX7_mark 48 = .ok (.iconst 2, 1) := by decide +kernel
theorem dX7_mark_49 : decode cX7_mark 49 = .ok (.if_icmp .ne 9, 3) := by decide +kernel
theorem dX7_mark_52 : decode cX7_mark 52 = .ok (.ldc2_w 209, 3) := by decide +kernel
theorem dX7_mark_55 : decode cX7_mark 55 = .ok (.goto 28, 3) := by decide +kernel
theorem dX7_mark_58 : decode cX7_mark 58 = .ok (.iload_n 1, 1) := by decide +kernel
theorem dX7_mark_59 : decode cX7_mark 59 = .ok (.iconst 3, 1) := by decide +kernel
theorem dX7_mark_60 : decode cX7_mark 60 = .ok (.if_icmp .ne 9, 3) := by decide +kernel
theorem dX7_mark_63 : decode cX7_mark 63 = .ok (.ldc2_w 211, 3) := by decide +kernel
theorem dX7_mark_66 : decode cX7_mark 66 = .ok (.goto 17, 3) := by decide +kernel
theorem dX7_mark_69 : decode cX7_mark 69 = .ok (.iload_n 1, 1) := by decide +kernel
theorem dX7_mark_70 : decode cX7_mark 70 = .ok (.iconst 4, 1) := by decide +kernel
theorem dX7_mark_71 : decode cX7_mark 71 = .ok (.if_icmp .ne 9, 3) := by decide +kernel
theorem dX7_mark_74 : decode cX7_mark 74 = .ok (.ldc2_w 213, 3) := by decide +kernel
theorem dX7_mark_77 : decode cX7_mark 77 = .ok (.goto 6, 3) := by decide +kernel
theorem dX7_mark_80 : decode cX7_mark 80 = .ok (.ldc2_w 215, 3) := by decide +kernel
theorem dX7_mark_83 : decode cX7_mark 83 = .ok (.ladd, 1) := by decide +kernel
theorem dX7_mark_84 : decode cX7_mark 84 = .ok (.putfield 203, 3) := by decide +kernel
theorem dX7_mark_87 : decode cX7_mark 87 = .ok (.iload_n 1, 1) := by decide +kernel
theorem dX7_mark_88 : decode cX7_mark 88 = .ok (.tableswitch 99 0 4 #[36, 42, 55, 66, 81], 36) := by decide +kernel
theorem dX7_mark_124 : decode cX7_mark 124 = .ok (.aload_n 0, 1) := by decide +kernel
theorem dX7_mark_125 : decode cX7_mark 125 = .ok (.iload_n 2, 1) := by decide +kernel
theorem dX7_mark_126 : decode cX7_mark 126 = .ok (.invokevirtual 137, 3) := by decide +kernel
theorem dX7_mark_129 : decode cX7_mark 129 = .ok (.ireturn, 1) := by decide +kernel
theorem dX7_mark_130 : decode cX7_mark 130 = .ok (.aload_n 0, 1) := by decide +kernel
theorem dX7_mark_131 : decode cX7_mark 131 = .ok (.iload_n 2, 1) := by decide +kernel
theorem dX7_mark_132 : decode cX7_mark 132 = .ok (.invokevirtual 137, 3) := by decide +kernel
theorem dX7_mark_135 : decode cX7_mark 135 = .ok (.aload_n 0, 1) := by decide +kernel
theorem dX7_mark_136 : decode cX7_mark 136 = .ok (.iload_n 2, 1) := by decide +kernel
theorem dX7_mark_137 : decode cX7_mark 137 = .ok (.iconst 2, 1) := by decide +kernel
theorem dX7_mark_138 : decode cX7_mark 138 = .ok (.invokevirtual 128, 3) := by decide +kernel
theorem dX7_mark_141 : decode cX7_mark 141 = .ok (.iadd, 1) := by decide +kernel
theorem dX7_mark_142 : decode cX7_mark 142 = .ok (.ireturn, 1) := by decide +kernel
theorem dX7_mark_143 : decode cX7_mark 143 = .ok (.aload_n 0, 1) := by decide +kernel
theorem dX7_mark_144 : decode cX7_mark 144 = .ok (.iload_n 2, 1) := by decide +kernel
theorem dX7_mark_145 : decode cX7_mark 145 = .ok (.invokevirtual 137, 3) := by decide +kernel
theorem dX7_mark_148 : decode cX7_mark 148 = .ok (.aload_n 0, 1) := by decide +kernel
theorem dX7_mark_149 : decode cX7_mark 149 = .ok (.getfield 119, 3) := by decide +kernel
theorem dX7_mark_152 : decode cX7_mark 152 = .ok (.isub, 1) := by decide +kernel
theorem dX7_mark_153 : decode cX7_mark 153 = .ok (.ireturn, 1) := by decide +kernel
theorem dX7_mark_154 : decode cX7_mark 154 = .ok (.iconst 2, 1) := by decide +kernel
theorem dX7_mark_155 : decode cX7_mark 155 = .ok (.aload_n 0, 1) := by decide +kernel
theorem dX7_mark_156 : decode cX7_mark 156 = .ok (.iload_n 2, 1) := by decide +kernel
theorem dX7_mark_157 : decode cX7_mark 157 = .ok (.invokevirtual 137, 3) := by decide +kernel
theorem dX7_mark_160 : decode cX7_mark 160 = .ok (.aload_n 0, 1) := by decide +kernel
theorem dX7_mark_161 : decode cX7_mark 161 = .ok (.iload_n 2, 1) := by decide +kernel
theorem dX7_mark_162 : decode cX7_mark 162 = .ok (.iconst 2, 1) := by decide +kernel
theorem dX7_mark_163 : decode cX7_mark 163 = .ok (.invokevirtual 128, 3) := by decide +kernel
theorem dX7_mark_166 : decode cX7_mark 166 = .ok (.iadd, 1) := by decide +kernel
theorem dX7_mark_167 : decode cX7_mark 167 = .ok (.imul, 1) := by decide +kernel
theorem dX7_mark_168 : decode cX7_mark 168 = .ok (.ireturn, 1) := by decide +kernel
theorem dX7_mark_169 : decode cX7_mark 169 = .ok (.aload_n 0, 1) := by decide +kernel
theorem dX7_mark_170 : decode cX7_mark 170 = .ok (.iload_n 2, 1) := by decide +kernel
theorem dX7_mark_171 : decode cX7_mark 171 = .ok (.invokevirtual 137, 3) := by decide +kernel
theorem dX7_mark_174 : decode cX7_mark 174 = .ok (.aload_n 0, 1) := by decide +kernel
theorem dX7_mark_175 : decode cX7_mark 175 = .ok (.getfield 119, 3) := by decide +kernel
theorem dX7_mark_178 : decode cX7_mark 178 = .ok (.isub, 1) := by decide +kernel
theorem dX7_mark_179 : decode cX7_mark 179 = .ok (.aload_n 0, 1) := by decide +kernel
theorem dX7_mark_180 : decode cX7_mark 180 = .ok (.getfield 16, 3) := by decide +kernel
theorem dX7_mark_183 : decode cX7_mark 183 = .ok (.iconst 3, 1) := by decide +kernel
theorem dX7_mark_184 : decode cX7_mark 184 = .ok (.iaload, 1) := by decide +kernel
theorem dX7_mark_185 : decode cX7_mark 185 = .ok (.iadd, 1) := by decide +kernel
theorem dX7_mark_186 : decode cX7_mark 186 = .ok (.ireturn, 1) := by decide +kernel
theorem dX7_mark_187 : decode cX7_mark 187 = .ok (.aload_n 0, 1) := by decide +kernel
theorem dX7_mark_188 : decode cX7_mark 188 = .ok (.iload_n 2, 1) := by decide +kernel
theorem dX7_mark_189 : decode cX7_mark 189 = .ok (.invokevirtual 137, 3) := by decide +kernel
theorem dX7_mark_192 : decode cX7_mark 192 = .ok (.bipush 9, 2) := by decide +kernel
theorem dX7_mark_194 : decode cX7_mark 194 = .ok (.aload_n 0, 1) := by decide +kernel
theorem dX7_mark_195 : decode cX7_mark 195 = .ok (.iload_n 2, 1) := by decide +kernel
theorem dX7_mark_196 : decode cX7_mark 196 = .ok (.iconst 1, 1) := by decide +kernel
theorem dX7_mark_197 : decode cX7_mark 197 = .ok (.invokevirtual 128, 3) := by decide +kernel
theorem dX7_mark_200 : decode cX7_mark 200 = .ok (.imul, 1) := by decide +kernel
theorem dX7_mark_201 : decode cX7_mark 201 = .ok (.iadd, 1) := by decide +kernel
theorem dX7_mark_202 : decode cX7_mark 202 = .ok (.ireturn, 1) := by decide +kernel
theorem dX7_trace_0 : decode cX7_trace 0 = .ok (.aload_n 0, 1) := by decide +kernel
theorem dX7_trace_1 : decode cX7_trace 1 = .ok (.getfield 203, 3) := by decide +kernel
theorem dX7_trace_4 : decode cX7_trace 4 = .ok (.lreturn, 1) := by decide +kernel
theorem dX7_keep_0 : decode cX7_keep 0 = .ok (.iload_n 1, 1) := by decide +kernel
theorem dX7_keep_1 : decode cX7_keep 1 = .ok (.i2l, 1) := by decide +kernel
theorem dX7_keep_2 : decode cX7_keep 2 = .ok (.lconst 0, 1) := by decide +kernel
theorem dX7_keep_3 : decode cX7_keep 3 = .ok (.lconst 1, 1) := by decide +kernel
theorem dX7_keep_4 : decode cX7_keep 4 = .ok (.invokestatic 51, 3) := by decide +kernel
theorem dX7_keep_7 : decode cX7_keep 7 = .ok (.ifCond .ne 5, 3) := by decide +kernel
theorem dX7_keep_10 : decode cX7_keep 10 = .ok (.iconst (-1), 1) := by decide +kernel
theorem dX7_keep_11 : decode cX7_keep 11 = .ok (.ireturn, 1) := by decide +kernel
theorem dX7_keep_12 : decode cX7_keep 12 = .ok (.sipush 145, 3) := by decide +kernel
theorem dX7_keep_15 : decode cX7_keep 15 = .ok (.iload_n 1, 1) := by decide +kernel
theorem dX7_keep_16 : decode cX7_keep 16 = .ok (.imul, 1) := by decide +kernel
theorem dX7_keep_17 : decode cX7_keep 17 = .ok (.istore_n 2, 1) := by decide +kernel
theorem dX7_keep_18 : decode cX7_keep 18 = .ok (.aload_n 0, 1) := by decide +kernel
theorem dX7_keep_19 : decode cX7_keep 19 = .ok (.getfield 40, 3) := by decide +kernel
theorem dX7_keep_22 : decode cX7_keep 22 = .ok (.iload_n 2, 1) := by decide +kernel
theorem dX7_keep_23 : decode cX7_keep 23 = .ok (.iconst 1, 1) := by decide +kernel
theorem dX7_keep_24 : decode cX7_keep 24 = .ok (.iastore, 1) := by decide +kernel
theorem dX7_keep_25 : decode cX7_keep 25 = .ok (.aload_n 0, 1) := by decide +kernel
theorem dX7_keep_26 : decode cX7_keep 26 = .ok (.getfield 40, 3) := by decide +kernel
theorem dX7_keep_29 : decode cX7_keep 29 = .ok (.iload_n 2, 1) := by decide +kernel
theorem dX7_keep_30 : decode cX7_keep 30 = .ok (.iconst 1, 1) := by decide +kernel
theorem dX7_keep_31 : decode cX7_keep 31 = .ok (.iadd, 1) := by decide +kernel
theorem dX7_keep_32 : decode cX7_keep 32 = .ok (.aload_n 0, 1) := by decide +kernel
theorem dX7_keep_33 : decode cX7_keep 33 = .ok (.getfield 119, 3) := by decide +kernel
theorem dX7_keep_36 : decode cX7_keep 36 = .ok (.iastore, 1) := by decide +kernel
theorem dX7_keep_37 : decode cX7_keep 37 = .ok (.aload_n 0, 1) := by decide +kernel
theorem dX7_keep_38 : decode cX7_keep 38 = .ok (.getfield 40, 3) := by decide +kernel
theorem dX7_keep_41 : decode cX7_keep 41 = .ok (.iload_n 2, 1) := by decide +kernel
theorem dX7_keep_42 : decode cX7_keep 42 = .ok (.iconst 2, 1) := by decide +kernel
theorem dX7_keep_43 : decode cX7_keep 43 = .ok (.iadd, 1) := by decide +kernel
theorem dX7_keep_44 : decode cX7_keep 44 = .ok (.aload_n 0, 1) := by decide +kernel
theorem dX7_keep_45 : decode cX7_keep 45 = .ok (.getfield 122, 3) := by decide +kernel
theorem dX7_keep_48 : decode cX7_keep 48 = .ok (.iastore, 1) := by decide +kernel
theorem dX7_keep_49 : decode cX7_keep 49 = .ok (.iconst 0, 1) := by decide +kernel
theorem dX7_keep_50 : decode cX7_keep 50 = .ok (.istore_n 3, 1) := by decide +kernel
theorem dX7_keep_51 : decode cX7_keep 51 = .ok (.iload_n 3, 1) := by decide +kernel
theorem dX7_keep_52 : decode cX7_keep 52 = .ok (.bipush 12, 2) := by decide +kernel
theorem dX7_keep_54 : decode cX7_keep 54 = .ok (.if_icmp .ge 25, 3) := by decide +kernel
theorem dX7_keep_57 : decode cX7_keep 57 = .ok (.aload_n 0, 1) := by decide +kernel
theorem dX7_keep_58 : decode cX7_keep 58 = .ok (.getfield 40, 3) := by decide +kernel
theorem dX7_keep_61 : decode cX7_keep 61 = .ok (.iload_n 2, 1) := by decide +kernel
theorem dX7_keep_62 : decode cX7_keep 62 = .ok (.iconst 3, 1) := by decide +kernel
theorem dX7_keep_63 : decode cX7_keep 63 = .ok (.iadd, 1) := by decide +kernel
theorem dX7_keep_64 : decode cX7_keep 64 = .ok (.iload_n 3, 1) := by decide +kernel
theorem dX7_keep_65 : decode cX7_keep 65 = .ok (.iadd, 1) := by decide +kernel
theorem dX7_keep_66 : decode cX7_keep 66 = .ok (.aload_n 0, 1) := by decide +kernel
theorem dX7_keep_67 : decode cX7_keep 67 = .ok (.getfield 19, 3) := by decide +kernel
theorem dX7_keep_70 : decode cX7_keep 70 = .ok (.iload_n 3, 1) := by decide +kernel
theorem dX7_keep_71 : decode cX7_keep 71 = .ok (.iaload, 1) := by decide +kernel
theorem dX7_keep_72 : decode cX7_keep 72 = .ok (.iastore, 1) := by decide +kernel
theorem dX7_keep_73 : decode cX7_keep 73 = .ok (.iinc 3 1, 3) := by decide +kernel
theorem dX7_keep_76 : decode cX7_keep 76 = .ok (.goto (-25), 3) := by decide +kernel
theorem dX7_keep_79 : decode cX7_keep 79 = .ok (.iconst 0, 1) := by decide +kernel
theorem dX7_keep_80 : decode cX7_keep 80 = .ok (.istore_n 3, 1) := by decide +kernel
theorem dX7_keep_81 : decode cX7_keep 81 = .ok (.iload_n 3, 1) := by decide +kernel
theorem dX7_keep_82 : decode cX7_keep 82 = .ok (.sipush 130, 3) := by decide +kernel
theorem dX7_keep_85 : decode cX7_keep 85 = .ok (.if_icmp .ge 26, 3) := by decide +kernel
theorem dX7_keep_88 : decode cX7_keep 88 = .ok (.aload_n 0, 1) := by decide +kernel
theorem dX7_keep_89 : decode cX7_keep 89 = .ok (.getfield 40, 3) := by decide +kernel
theorem dX7_keep_92 : decode cX7_keep 92 = .ok (.iload_n 2, 1) := by decide +kernel
theorem dX7_keep_93 : decode cX7_keep 93 = .ok (.bipush 15, 2) := by decide +kernel
theorem dX7_keep_95 : decode cX7_keep 95 = .ok (.iadd, 1) := by decide +kernel
theorem dX7_keep_96 : decode cX7_keep 96 = .ok (.iload_n 3, 1) := by decide +kernel
theorem dX7_keep_97 : decode cX7_keep 97 = .ok (.iadd, 1) := by decide +kernel
theorem dX7_keep_98 : decode cX7_keep 98 = .ok (.aload_n 0, 1) := by decide +kernel
theorem dX7_keep_99 : decode cX7_keep 99 = .ok (.getfield 22, 3) := by decide +kernel
theorem dX7_keep_102 : decode cX7_keep 102 = .ok (.iload_n 3, 1) := by decide +kernel
theorem dX7_keep_103 : decode cX7_keep 103 = .ok (.iaload, 1) := by decide +kernel
theorem dX7_keep_104 : decode cX7_keep 104 = .ok (.iastore, 1) := by decide +kernel
theorem dX7_keep_105 : decode cX7_keep 105 = .ok (.iinc 3 1, 3) := by decide +kernel
theorem dX7_keep_108 : decode cX7_keep 108 = .ok (.goto (-27), 3) := by decide +kernel
theorem dX7_keep_111 : decode cX7_keep 111 = .ok (.aload_n 0, 1) := by decide +kernel
theorem dX7_keep_112 : decode cX7_keep 112 = .ok (.getfield 119, 3) := by decide +kernel
theorem dX7_keep_115 : decode cX7_keep 115 = .ok (.ireturn, 1) := by decide +kernel
theorem dX7_back_0 : decode cX7_back 0 = .ok (.iload_n 1, 1) := by decide +kernel
theorem dX7_back_1 : decode cX7_back 1 = .ok (.i2l, 1) := by decide +kernel
theorem dX7_back_2 : decode cX7_back 2 = .ok (.lconst 0, 1) := by decide +kernel
theorem dX7_back_3 : decode cX7_back 3 = .ok (.lconst 1, 1) := by decide +kernel
theorem dX7_back_4 : decode cX7_back 4 = .ok (.invokestatic 51, 3) := by decide +kernel
theorem dX7_back_7 : decode cX7_back 7 = .ok (.ifCond .ne 5, 3) := by decide +kernel
theorem dX7_back_10 : decode cX7_back 10 = .ok (.iconst (-1), 1) := by decide +kernel
theorem dX7_back_11 : decode cX7_back 11 = .ok (.ireturn, 1) := by decide +kernel
theorem dX7_back_12 : decode cX7_back 12 = .ok (.sipush 145, 3) := by decide +kernel
theorem dX7_back_15 : decode cX7_back 15 = .ok (.iload_n 1, 1) := by decide +kernel
theorem dX7_back_16 : decode cX7_back 16 = .ok (.imul, 1) := by decide +kernel
theorem dX7_back_17 : decode cX7_back 17 = .ok (.istore_n 2, 1) := by decide +kernel
theorem dX7_back_18 : decode cX7_back 18 = .ok (.aload_n 0, 1) := by decide +kernel
theorem dX7_back_19 : decode cX7_back 19 = .ok (.getfield 40, 3) := by decide +kernel
theorem dX7_back_22 : decode cX7_back 22 = .ok (.iload_n 2, 1) := by decide +kernel
theorem dX7_back_23 : decode cX7_back 23 = .ok (.iaload, 1) := by decide +kernel
theorem dX7_back_24 : decode cX7_back 24 = .ok (.ifCond .ne 6, 3) := by decide +kernel
theorem dX7_back_27 : decode cX7_back 27 = .ok (.bipush (-2), 2) := by decide +kernel
theorem dX7_back_29 : decode cX7_back 29 = .ok (.ireturn, 1) := by decide +kernel
theorem dX7_back_30 : decode cX7_back 30 = .ok (.aload_n 0, 1) := by decide +kernel
theorem dX7_back_31 : decode cX7_back 31 = .ok (.aload_n 0, 1) := by decide +kernel
theorem dX7_back_32 : decode cX7_back 32 = .ok (.getfield 40, 3) := by decide +kernel
theorem dX7_back_35 : decode cX7_back 35 = .ok (.iload_n 2, 1) := by decide +kernel
theorem dX7_back_36 : decode cX7_back 36 = .ok (.iconst 1, 1) := by decide +kernel
theorem dX7_back_37 : decode cX7_back 37 = .ok (.iadd, 1) := by decide +kernel
theorem dX7_back_38 : decode cX7_back 38 = .ok (.iaload, 1) := by decide +kernel
theorem dX7_back_39 : decode cX7_back 39 = .ok (.putfield 119, 3) := by decide +kernel
theorem dX7_back_42 : decode cX7_back 42 = .ok (.aload_n 0, 1) := by decide +kernel
theorem dX7_back_43 : decode cX7_back 43 = .ok (.aload_n 0, 1) := by decide +kernel
theorem dX7_back_44 : decode cX7_back 44 = .ok (.getfield 40, 3) := by decide +kernel
theorem dX7_back_47 : decode cX7_back 47 = .ok (.iload_n 2, 1) := by decide +kernel
theorem dX7_back_48 : decode cX7_back 48 = .ok (.iconst 2, 1) := by decide +kernel
theorem dX7_back_49 : decode cX7_back 49 = .ok (.iadd, 1) := by decide +kernel
theorem dX7_back_50 : decode cX7_back 50 = .ok (.iaload, 1) := by decide +kernel
theorem dX7_back_51 : decode cX7_back 51 = .ok (.putfield 122, 3) := by decide +kernel
theorem dX7_back_54 : decode cX7_back 54 = .ok (.iconst 0, 1) := by decide +kernel
theorem dX7_back_55 : decode cX7_back 55 = .ok (.istore_n 3, 1) := by decide +kernel
theorem dX7_back_56 : decode cX7_back 56 = .ok (.iload_n 3, 1) := by decide +kernel
theorem dX7_back_57 : decode cX7_back 57 = .ok (.bipush 12, 2) := by decide +kernel
theorem dX7_back_59 : decode cX7_back 59 = .ok (.if_icmp .ge 25, 3) := by decide +kernel
theorem dX7_back_62 : decode cX7_back 62 = .ok (.aload_n 0, 1) := by decide +kernel
theorem dX7_back_63 : decode cX7_back 63 = .ok (.getfield 19, 3) := by decide +kernel
theorem dX7_back_66 : decode cX7_back 66 = .ok (.iload_n 3, 1) := by decide +kernel
theorem dX7_back_67 : decode cX7_back 67 = .ok (.aload_n 0, 1) := by decide +kernel
theorem dX7_back_68 : decode cX7_back 68 = .ok (.getfield 40, 3) := by decide +kernel
theorem dX7_back_71 : decode cX7_back 71 = .ok (.iload_n 2, 1) := by decide +kernel
theorem dX7_back_72 : decode cX7_back 72 = .ok (.iconst 3, 1) := by decide +kernel
theorem dX7_back_73 : decode cX7_back 73 = .ok (.iadd, 1) := by decide +kernel
theorem dX7_back_74 : decode cX7_back 74 = .ok (.iload_n 3, 1) := by decide +kernel
theorem dX7_back_75 : decode cX7_back 75 = .ok (.iadd, 1) := by decide +kernel
theorem dX7_back_76 : decode cX7_back 76 = .ok (.iaload, 1) := by decide +kernel
theorem dX7_back_77 : decode cX7_back 77 = .ok (.iastore, 1) := by decide +kernel
theorem dX7_back_78 : decode cX7_back 78 = .ok (.iinc 3 1, 3) := by decide +kernel
theorem dX7_back_81 : decode cX7_back 81 = .ok (.goto (-25), 3) := by decide +kernel
theorem dX7_back_84 : decode cX7_back 84 = .ok (.iconst 0, 1) := by decide +kernel
theorem dX7_back_85 : decode cX7_back 85 = .ok (.istore_n 3, 1) := by decide +kernel
theorem dX7_back_86 : decode cX7_back 86 = .ok (.iload_n 3, 1) := by decide +kernel
theorem dX7_back_87 : decode cX7_back 87 = .ok (.sipush 130, 3) := by decide +kernel
theorem dX7_back_90 : decode cX7_back 90 = .ok (.if_icmp .ge 26, 3) := by decide +kernel
theorem dX7_back_93 : decode cX7_back 93 = .ok (.aload_n 0, 1) := by decide +kernel
theorem dX7_back_94 : decode cX7_back 94 = .ok (.getfield 22, 3) := by decide +kernel
theorem dX7_back_97 : decode cX7_back 97 = .ok (.iload_n 3, 1) := by decide +kernel
theorem dX7_back_98 : decode cX7_back 98 = .ok (.aload_n 0, 1) := by decide +kernel
theorem dX7_back_99 : decode cX7_back 99 = .ok (.getfield 40, 3) := by decide +kernel
theorem dX7_back_102 : decode cX7_back 102 = .ok (.iload_n 2, 1) := by decide +kernel
theorem dX7_back_103 : decode cX7_back 103 = .ok (.bipush 15, 2) := by decide +kernel
theorem dX7_back_105 : decode cX7_back 105 = .ok (.iadd, 1) := by decide +kernel
theorem dX7_back_106 : decode cX7_back 106 = .ok (.iload_n 3, 1) := by decide +kernel
theorem dX7_back_107 : decode cX7_back 107 = .ok (.iadd, 1) := by decide +kernel
theorem dX7_back_108 : decode cX7_back 108 = .ok (.iaload, 1) := by decide +kernel
theorem dX7_back_109 : decode cX7_back 109 = .ok (.iastore, 1) := by decide +kernel
theorem dX7_back_110 : decode cX7_back 110 = .ok (.iinc 3 1, 3) := by decide +kernel
theorem dX7_back_113 : decode cX7_back 113 = .ok (.goto (-27), 3) := by decide +kernel
theorem dX7_back_116 : decode cX7_back 116 = .ok (.aload_n 0, 1) := by decide +kernel
theorem dX7_back_117 : decode cX7_back 117 = .ok (.getfield 119, 3) := by decide +kernel
theorem dX7_back_120 : decode cX7_back 120 = .ok (.ireturn, 1) := by decide +kernel
theorem dX7_count_0 : decode cX7_count 0 = .ok (.iload_n 1, 1) := by decide +kernel
theorem dX7_count_1 : decode cX7_count 1 = .ok (.tableswitch 108 0 9 #[55, 55, 62, 69, 76, 81, 86, 93, 98, 103], 55) := by decide +kernel
theorem dX7_count_56 : decode cX7_count 56 = .ok (.aload_n 0, 1) := by decide +kernel
theorem dX7_count_57 : decode cX7_count 57 = .ok (.getfield 16, 3) := by decide +kernel
theorem dX7_count_60 : decode cX7_count 60 = .ok (.iload_n 1, 1) := by decide +kernel
theorem dX7_count_61 : decode cX7_count 61 = .ok (.iaload, 1) := by decide +kernel
theorem dX7_count_62 : decode cX7_count 62 = .ok (.ireturn, 1) := by decide +kernel
theorem dX7_count_63 : decode cX7_count 63 = .ok (.aload_n 0, 1) := by decide +kernel
theorem dX7_count_64 : decode cX7_count 64 = .ok (.getfield 16, 3) := by decide +kernel
theorem dX7_count_67 : decode cX7_count 67 = .ok (.iconst 3, 1) := by decide +kernel
theorem dX7_count_68 : decode cX7_count 68 = .ok (.iaload, 1) := by decide +kernel
theorem dX7_count_69 : decode cX7_count 69 = .ok (.ireturn, 1) := by decide +kernel
theorem dX7_count_70 : decode cX7_count 70 = .ok (.aload_n 0, 1) := by decide +kernel
theorem dX7_count_71 : decode cX7_count 71 = .ok (.getfield 16, 3) := by decide +kernel
theorem dX7_count_74 : decode cX7_count 74 = .ok (.iconst 5, 1) := by decide +kernel
theorem dX7_count_75 : decode cX7_count 75 = .ok (.iaload, 1) := by decide +kernel
theorem dX7_count_76 : decode cX7_count 76 = .ok (.ireturn, 1) := by decide +kernel
theorem dX7_count_77 : decode cX7_count 77 = .ok (.aload_n 0, 1) := by decide +kernel
theorem dX7_count_78 : decode cX7_count 78 = .ok (.getfield 119, 3) := by decide +kernel
theorem dX7_count_81 : decode cX7_count 81 = .ok (.ireturn, 1) := by decide +kernel
theorem dX7_count_82 : decode cX7_count 82 = .ok (.aload_n 0, 1) := by decide +kernel
theorem dX7_count_83 : decode cX7_count 83 = .ok (.invokevirtual 178, 3) := by decide +kernel
theorem dX7_count_86 : decode cX7_count 86 = .ok (.ireturn, 1) := by decide +kernel
theorem dX7_count_87 : decode cX7_count 87 = .ok (.aload_n 0, 1) := by decide +kernel
theorem dX7_count_88 : decode cX7_count 88 = .ok (.getfield 16, 3) := by decide +kernel
theorem dX7_count_91 : decode cX7_count 91 = .ok (.iconst 4, 1) := by decide +kernel
theorem dX7_count_92 : decode cX7_count 92 = .ok (.iaload, 1) := by decide +kernel
theorem dX7_count_93 : decode cX7_count 93 = .ok (.ireturn, 1) := by decide +kernel
theorem dX7_count_94 : decode cX7_count 94 = .ok (.aload_n 0, 1) := by decide +kernel
theorem dX7_count_95 : decode cX7_count 95 = .ok (.getfield 125, 3) := by decide +kernel
theorem dX7_count_98 : decode cX7_count 98 = .ok (.ireturn, 1) := by decide +kernel
theorem dX7_count_99 : decode cX7_count 99 = .ok (.aload_n 0, 1) := by decide +kernel
theorem dX7_count_100 : decode cX7_count 100 = .ok (.getfield 122, 3) := by decide +kernel
theorem dX7_count_103 : decode cX7_count 103 = .ok (.ireturn, 1) := by decide +kernel
theorem dX7_count_104 : decode cX7_count 104 = .ok (.aload_n 0, 1) := by decide +kernel
theorem dX7_count_105 : decode cX7_count 105 = .ok (.getfield 55, 3) := by decide +kernel
theorem dX7_count_108 : decode cX7_count 108 = .ok (.ireturn, 1) := by decide +kernel
theorem dX7_count_109 : decode cX7_count 109 = .ok (.iconst (-1), 1) := by decide +kernel
theorem dX7_count_110 : decode cX7_count 110 = .ok (.ireturn, 1) := by decide +kernel
theorem dJ6_bitCount_0f7a4_0 : decode cJ6_bitCount_0f7a4 0 = .ok (.iload_n 0, 1) := by decide +kernel
theorem dJ6_bitCount_0f7a4_1 : decode cJ6_bitCount_0f7a4 1 = .ok (.iload_n 0, 1) := by decide +kernel
theorem dJ6_bitCount_0f7a4_2 : decode cJ6_bitCount_0f7a4 2 = .ok (.iconst 1, 1) := by decide +kernel
theorem dJ6_bitCount_0f7a4_3 : decode cJ6_bitCount_0f7a4 3 = .ok (.iushr, 1) := by decide +kernel
theorem dJ6_bitCount_0f7a4_4 : decode cJ6_bitCount_0f7a4 4 = .ok (.ldc_w 265, 3) := by decide +kernel
theorem dJ6_bitCount_0f7a4_7 : decode cJ6_bitCount_0f7a4 7 = .ok (.iand, 1) := by decide +kernel
theorem dJ6_bitCount_0f7a4_8 : decode cJ6_bitCount_0f7a4 8 = .ok (.isub, 1) := by decide +kernel
theorem dJ6_bitCount_0f7a4_9 : decode cJ6_bitCount_0f7a4 9 = .ok (.istore_n 0, 1) := by decide +kernel
theorem dJ6_bitCount_0f7a4_10 : decode cJ6_bitCount_0f7a4 10 = .ok (.iload_n 0, 1) := by decide +kernel
theorem dJ6_bitCount_0f7a4_11 : decode cJ6_bitCount_0f7a4 11 = .ok (.ldc_w 266, 3) := by decide +kernel
theorem dJ6_bitCount_0f7a4_14 : decode cJ6_bitCount_0f7a4 14 = .ok (.iand, 1) := by decide +kernel
theorem dJ6_bitCount_0f7a4_15 : decode cJ6_bitCount_0f7a4 15 = .ok (.iload_n 0, 1) := by decide +kernel
theorem dJ6_bitCount_0f7a4_16 : decode cJ6_bitCount_0f7a4 16 = .ok (.iconst 2, 1) := by decide +kernel
theorem dJ6_bitCount_0f7a4_17 : decode cJ6_bitCount_0f7a4 17 = .ok (.iushr, 1) := by decide +kernel
theorem dJ6_bitCount_0f7a4_18 : decode cJ6_bitCount_0f7a4 18 = .ok (.ldc_w 266, 3) := by decide +kernel
theorem dJ6_bitCount_0f7a4_21 : decode cJ6_bitCount_0f7a4 21 = .ok (.iand, 1) := by decide +kernel
theorem dJ6_bitCount_0f7a4_22 : decode cJ6_bitCount_0f7a4 22 = .ok (.iadd, 1) := by decide +kernel
theorem dJ6_bitCount_0f7a4_23 : decode cJ6_bitCount_0f7a4 23 = .ok (.istore_n 0, 1) := by decide +kernel
theorem dJ6_bitCount_0f7a4_24 : decode cJ6_bitCount_0f7a4 24 = .ok (.iload_n 0, 1) := by decide +kernel
theorem dJ6_bitCount_0f7a4_25 : decode cJ6_bitCount_0f7a4 25 = .ok (.iload_n 0, 1) := by decide +kernel
theorem dJ6_bitCount_0f7a4_26 : decode cJ6_bitCount_0f7a4 26 = .ok (.iconst 4, 1) := by decide +kernel
theorem dJ6_bitCount_0f7a4_27 : decode cJ6_bitCount_0f7a4 27 = .ok (.iushr, 1) := by decide +kernel
theorem dJ6_bitCount_0f7a4_28 : decode cJ6_bitCount_0f7a4 28 = .ok (.iadd, 1) := by decide +kernel
theorem dJ6_bitCount_0f7a4_29 : decode cJ6_bitCount_0f7a4 29 = .ok (.ldc_w 267, 3) := by decide +kernel
theorem dJ6_bitCount_0f7a4_32 : decode cJ6_bitCount_0f7a4 32 = .ok (.iand, 1) := by decide +kernel
theorem dJ6_bitCount_0f7a4_33 : decode cJ6_bitCount_0f7a4 33 = .ok (.istore_n 0, 1) := by decide +kernel
theorem dJ6_bitCount_0f7a4_34 : decode cJ6_bitCount_0f7a4 34 = .ok (.iload_n 0, 1) := by decide +kernel
theorem dJ6_bitCount_0f7a4_35 : decode cJ6_bitCount_0f7a4 35 = .ok (.iload_n 0, 1) := by decide +kernel
theorem dJ6_bitCount_0f7a4_36 : decode cJ6_bitCount_0f7a4 36 = .ok (.bipush 8, 2) := by decide +kernel
theorem dJ6_bitCount_0f7a4_38 : decode cJ6_bitCount_0f7a4 38 = .ok (.iushr, 1) := by decide +kernel
theorem dJ6_bitCount_0f7a4_39 : decode cJ6_bitCount_0f7a4 39 = .ok (.iadd, 1) := by decide +kernel
theorem dJ6_bitCount_0f7a4_40 : decode cJ6_bitCount_0f7a4 40 = .ok (.istore_n 0, 1) := by decide +kernel
theorem dJ6_bitCount_0f7a4_41 : decode cJ6_bitCount_0f7a4 41 = .ok (.iload_n 0, 1) := by decide +kernel
theorem dJ6_bitCount_0f7a4_42 : decode cJ6_bitCount_0f7a4 42 = .ok (.iload_n 0, 1) := by decide +kernel
theorem dJ6_bitCount_0f7a4_43 : decode cJ6_bitCount_0f7a4 43 = .ok (.bipush 16, 2) := by decide +kernel
theorem dJ6_bitCount_0f7a4_45 : decode cJ6_bitCount_0f7a4 45 = .ok (.iushr, 1) := by decide +kernel
theorem dJ6_bitCount_0f7a4_46 : decode cJ6_bitCount_0f7a4 46 = .ok (.iadd, 1) := by decide +kernel
theorem dJ6_bitCount_0f7a4_47 : decode cJ6_bitCount_0f7a4 47 = .ok (.istore_n 0, 1) := by decide +kernel
theorem dJ6_bitCount_0f7a4_48 : decode cJ6_bitCount_0f7a4 48 = .ok (.iload_n 0, 1) := by decide +kernel
theorem dJ6_bitCount_0f7a4_49 : decode cJ6_bitCount_0f7a4 49 = .ok (.bipush 63, 2) := by decide +kernel
theorem dJ6_bitCount_0f7a4_51 : decode cJ6_bitCount_0f7a4 51 = .ok (.iand, 1) := by decide +kernel
theorem dJ6_bitCount_0f7a4_52 : decode cJ6_bitCount_0f7a4 52 = .ok (.ireturn, 1) := by decide +kernel
theorem dJ9_min_7cf53_0 : decode cJ9_min_7cf53 0 = .ok (.iload_n 0, 1) := by decide +kernel
theorem dJ9_min_7cf53_1 : decode cJ9_min_7cf53 1 = .ok (.iload_n 1, 1) := by decide +kernel
theorem dJ9_min_7cf53_2 : decode cJ9_min_7cf53 2 = .ok (.if_icmp .gt 7, 3) := by decide +kernel
theorem dJ9_min_7cf53_5 : decode cJ9_min_7cf53 5 = .ok (.iload_n 0, 1) := by decide +kernel
theorem dJ9_min_7cf53_6 : decode cJ9_min_7cf53 6 = .ok (.goto 4, 3) := by decide +kernel
theorem dJ9_min_7cf53_9 : decode cJ9_min_7cf53 9 = .ok (.iload_n 1, 1) := by decide +kernel
theorem dJ9_min_7cf53_10 : decode cJ9_min_7cf53 10 = .ok (.ireturn, 1) := by decide +kernel
theorem dL_law_0 : decode cL_law 0 = .ok (.new 7, 3) := by decide +kernel
theorem dL_law_3 : decode cL_law 3 = .ok (.dup, 1) := by decide +kernel
theorem dL_law_4 : decode cL_law 4 = .ok (.invokespecial 9, 3) := by decide +kernel
theorem dL_law_7 : decode cL_law 7 = .ok (.astore_n 1, 1) := by decide +kernel
theorem dL_law_8 : decode cL_law 8 = .ok (.new 10, 3) := by decide +kernel
theorem dL_law_11 : decode cL_law 11 = .ok (.dup, 1) := by decide +kernel
theorem dL_law_12 : decode cL_law 12 = .ok (.invokespecial 12, 3) := by decide +kernel
theorem dL_law_15 : decode cL_law 15 = .ok (.astore_n 2, 1) := by decide +kernel
theorem dL_law_16 : decode cL_law 16 = .ok (.iconst 0, 1) := by decide +kernel
theorem dL_law_17 : decode cL_law 17 = .ok (.istore_n 3, 1) := by decide +kernel
theorem dL_law_18 : decode cL_law 18 = .ok (.iload_n 3, 1) := by decide +kernel
theorem dL_law_19 : decode cL_law 19 = .ok (.aload_n 0, 1) := by decide +kernel
theorem dL_law_20 : decode cL_law 20 = .ok (.arraylength, 1) := by decide +kernel
theorem dL_law_21 : decode cL_law 21 = .ok (.iconst 4, 1) := by decide +kernel
theorem dL_law_22 : decode cL_law 22 = .ok (.isub, 1) := by decide +kernel
theorem dL_law_23 : decode cL_law 23 = .ok (.if_icmp .gt 875, 3) := by decide +kernel
theorem dL_law_26 : decode cL_law 26 = .ok (.aload_n 0, 1) := by decide +kernel
theorem dL_law_27 : decode cL_law 27 = .ok (.iload_n 3, 1) := by decide +kernel
theorem dL_law_28 : decode cL_law 28 = .ok (.iaload, 1) := by decide +kernel
theorem dL_law_29 : decode cL_law 29 = .ok (.bipush 31, 2) := by decide +kernel
theorem dL_law_31 : decode cL_law 31 = .ok (.iand, 1) := by decide +kernel
theorem dL_law_32 : decode cL_law 32 = .ok (.tableswitch 860 0 28 #[132, 155, 168, 181, 214, 247, 280, 313, 336, 369, 382, 395, 428, 461, 484, 507, 530, 563, 606, 629, 662, 695, 708, 721, 744, 777, 800, 823, 846], 132) := by decide +kernel
theorem dL_law_164 : decode cL_law 164 = .ok (.aload_n 1, 1) := by decide +kernel
theorem dL_law_165 : decode cL_law 165 = .ok (.aload_n 0, 1) := by decide +kernel
theorem dL_law_166 : decode cL_law 166 = .ok (.iload_n 3, 1) := by decide +kernel
theorem dL_law_167 : decode cL_law 167 = .ok (.iconst 1, 1) := by decide +kernel
theorem dL_law_168 : decode cL_law 168 = .ok (.iadd, 1) := by decide +kernel
theorem dL_law_169 : decode cL_law 169 = .ok (.iaload, 1) := by decide +kernel
theorem dL_law_170 : decode cL_law 170 = .ok (.invokevirtual 13, 3) := by decide +kernel
theorem dL_law_173 : decode cL_law 173 = .ok (.aload_n 2, 1) := by decide +kernel
theorem dL_law_174 : decode cL_law 174 = .ok (.aload_n 0, 1) := by decide +kernel
theorem dL_law_175 : decode cL_law 175 = .ok (.iload_n 3, 1) := by decide +kernel
theorem dL_law_176 : decode cL_law 176 = .ok (.iconst 1, 1) := by decide +kernel
theorem dL_law_177 : decode cL_law 177 = .ok (.iadd, 1) := by decide +kernel
theorem dL_law_178 : decode cL_law 178 = .ok (.iaload, 1) := by decide +kernel
theorem dL_law_179 : decode cL_law 179 = .ok (.invokevirtual 17, 3) := by decide +kernel
theorem dL_law_182 : decode cL_law 182 = .ok (.if_icmp .eq 710, 3) := by decide +kernel
theorem dL_law_185 : decode cL_law 185 = .ok (.iconst 0, 1) := by decide +kernel
theorem dL_law_186 : decode cL_law 186 = .ok (.ireturn, 1) := by decide +kernel
theorem dL_law_187 : decode cL_law 187 = .ok (.aload_n 1, 1) := by decide +kernel
theorem dL_law_188 : decode cL_law 188 = .ok (.invokevirtual 18, 3) := by decide +kernel
theorem dL_law_191 : decode cL_law 191 = .ok (.aload_n 2, 1) := by decide +kernel
theorem dL_law_192 : decode cL_law 192 = .ok (.invokevirtual 22, 3) := by decide +kernel
theorem dL_law_195 : decode cL_law 195 = .ok (.if_icmp .eq 697, 3) := by decide +kernel
theorem dL_law_198 : decode cL_law 198 = .ok (.iconst 0, 1) := by decide +kernel
theorem dL_law_199 : decode cL_law 199 = .ok (.ireturn, 1) := by decide +kernel
theorem dL_law_200 : decode cL_law 200 = .ok (.aload_n 1, 1) := by decide +kernel
theorem dL_law_201 : decode cL_law 201 = .ok (.invokevirtual 23, 3) := by decide +kernel
theorem dL_law_204 : decode cL_law 204 = .ok (.aload_n 2, 1) := by decide +kernel
theorem dL_law_205 : decode cL_law 205 = .ok (.invokevirtual 26, 3) := by decide +kernel
theorem dL_law_208 : decode cL_law 208 = .ok (.if_icmp .eq 684, 3) := by decide +kernel
theorem dL_law_211 : decode cL_law 211 = .ok (.iconst 0, 1) := by decide +kernel
theorem dL_law_212 : decode cL_law 212 = .ok (.ireturn, 1) := by decide +kernel
theorem dL_law_213 : decode cL_law 213 = .ok (.aload_n 1, 1) := by decide +kernel
theorem dL_law_214 : decode cL_law 214 = .ok (.aload_n 0, 1) := by decide +kernel
theorem dL_law_215 : decode cL_law 215 = .ok (.iload_n 3, 1) := by decide +kernel
theorem dL_law_216 : decode cL_law 216 = .ok (.iconst 1, 1) := by decide +kernel
theorem dL_law_217 : decode cL_law 217 = .ok (.iadd, 1) := by decide +kernel
theorem dL_law_218 : decode cL_law 218 = .ok (.iaload, 1) := by decide +kernel
theorem dL_law_219 : decode cL_law 219 = .ok (.aload_n 0, 1) := by decide +kernel
theorem dL_law_220 : decode cL_law 220 = .ok (.iload_n 3, 1) := by decide +kernel
theorem dL_law_221 : decode cL_law 221 = .ok (.iconst 2, 1) := by decide +kernel
theorem dL_law_222 : decode cL_law 222 = .ok (.iadd, 1) := by decide +kernel
theorem dL_law_223 : decode cL_law 223 = .ok (.iaload, 1) := by decide +kernel
theorem dL_law_224 : decode cL_law 224 = .ok (.invokevirtual 27, 3) := by decide +kernel
theorem dL_law_227 : decode cL_law 227 = .ok (.aload_n 2, 1) := by decide +kernel
theorem dL_law_228 : decode cL_law 228 = .ok (.aload_n 0, 1) := by decide +kernel
theorem dL_law_229 : decode cL_law 229 = .ok (.iload_n 3, 1) := by decide +kernel
theorem dL_law_230 : decode cL_law 230 = .ok (.iconst 1, 1) := by decide +kernel
theorem dL_law_231 : decode cL_law 231 = .ok (.iadd, 1) := by decide +kernel
theorem dL_law_232 : decode cL_law 232 = .ok (.iaload, 1) := by decide +kernel
theorem dL_law_233 : decode cL_law 233 = .ok (.aload_n 0, 1) := by decide +kernel
theorem dL_law_234 : decode cL_law 234 = .ok (.iload_n 3, 1) := by decide +kernel
theorem dL_law_235 : decode cL_law 235 = .ok (.iconst 2, 1) := by decide +kernel
theorem dL_law_236 : decode cL_law 236 = .ok (.iadd, 1) := by decide +kernel
theorem dL_law_237 : decode cL_law 237 = .ok (.iaload, 1) := by decide +kernel
theorem dL_law_238 : decode cL_law 238 = .ok (.invokevirtual 31, 3) := by decide +kernel
theorem dL_law_241 : decode cL_law 241 = .ok (.if_icmp .eq 651, 3) := by decide +kernel
theorem dL_law_244 : decode cL_law 244 = .ok (.iconst 0, 1) := by decide +kernel
theorem dL_law_245 : decode cL_law 245 = .ok (.ireturn, 1) := by decide +kernel
theorem dL_law_246 : decode cL_law 246 = .ok (.aload_n 1, 1) := by decide +kernel
theorem dL_law_247 : decode cL_law 247 = .ok (.aload_n 0, 1) := by decide +kernel
theorem dL_law_248 : decode cL_law 248 = .ok (.iload_n 3, 1) := by decide +kernel
theorem dL_law_249 : decode cL_law 249 = .ok (.iconst 1, 1) := by decide +kernel
theorem dL_law_250 : decode cL_law 250 = .ok (.iadd, 1) := by decide +kernel
theorem dL_law_251 : decode cL_law 251 = .ok (.iaload, 1) := by decide +kernel
theorem dL_law_252 : decode cL_law 252 = .ok (.aload_n 0, 1) := by decide +kernel
theorem dL_law_253 : decode cL_law 253 = .ok (.iload_n 3, 1) := by decide +kernel
theorem dL_law_254 : decode cL_law 254 = .ok (.iconst 2, 1) := by decide +kernel
theorem dL_law_255 : decode cL_law 255 = .ok (.iadd, 1) := by decide +kernel
theorem dL_law_256 : decode cL_law 256 = .ok (.iaload, 1) := by decide +kernel
theorem dL_law_257 : decode cL_law 257 = .ok (.invokevirtual 32, 3) := by decide +kernel
theorem dL_law_260 : decode cL_law 260 = .ok (.aload_n 2, 1) := by decide +kernel
theorem dL_law_261 : decode cL_law 261 = .ok (.aload_n 0, 1) := by decide +kernel
theorem dL_law_262 : decode cL_law 262 = .ok (.iload_n 3, 1) := by decide +kernel
theorem dL_law_263 : decode cL_law 263 = .ok (.iconst 1, 1) := by decide +kernel
theorem dL_law_264 : decode cL_law 264 = .ok (.iadd, 1) := by decide +kernel
theorem dL_law_265 : decode cL_law 265 = .ok (.iaload, 1) := by decide +kernel
theorem dL_law_266 : decode cL_law 266 = .ok (.aload_n 0, 1) := by decide +kernel
theorem dL_law_267 : decode cL_law 267 = .ok (.iload_n 3, 1) := by decide +kernel
theorem dL_law_268 : decode cL_law 268 = .ok (.iconst 2, 1) := by decide +kernel
theorem dL_law_269 : decode cL_law 269 = .ok (.iadd, 1) := by decide +kernel
theorem dL_law_270 : decode cL_law 270 = .ok (.iaload, 1) := by decide +kernel
theorem dL_law_271 : decode cL_law 271 = .ok (.invokevirtual 35, 3) := by decide +kernel
theorem dL_law_274 : decode cL_law 274 = .ok (.if_icmp .eq 618, 3) := by decide +kernel
theorem dL_law_277 : decode cL_law 277 = .ok (.iconst 0, 1) := by decide +kernel
theorem dL_law_278 : decode cL_law 278 = .ok (.ireturn, 1) := by decide +kernel
theorem dL_law_279 : decode cL_law 279 = .ok (.aload_n 1, 1) := by decide +kernel
theorem dL_law_280 : decode cL_law 280 = .ok (.aload_n 0, 1) := by decide +kernel
theorem dL_law_281 : decode cL_law 281 = .ok (.iload_n 3, 1) := by decide +kernel
theorem dL_law_282 : decode cL_law 282 = .ok (.iconst 1, 1) := by decide +kernel
theorem dL_law_283 : decode cL_law 283 = .ok (.iadd, 1) := by decide +kernel
theorem dL_law_284 : decode cL_law 284 = .ok (.iaload, 1) := by decide +kernel
theorem dL_law_285 : decode cL_law 285 = .ok (.aload_n 0, 1) := by decide +kernel
theorem dL_law_286 : decode cL_law 286 = .ok (.iload_n 3, 1) := by decide +kernel
theorem dL_law_287 : decode cL_law 287 = .ok (.iconst 2, 1) := by decide +kernel
theorem dL_law_288 : decode cL_law 288 = .ok (.iadd, 1) := by decide +kernel
theorem dL_law_289 : decode cL_law 289 = .ok (.iaload, 1) := by decide +kernel
theorem dL_law_290 : decode cL_law 290 = .ok (.invokevirtual 36, 3) := by decide +kernel
theorem dL_law_293 : decode cL_law 293 = .ok (.aload_n 2, 1) := by decide +kernel
theorem dL_law_294 : decode cL_law 294 = .ok (.aload_n 0, 1) := by decide +kernel
theorem dL_law_295 : decode cL_law 295 = .ok (.iload_n 3, 1) := by decide +kernel
theorem dL_law_296 : decode cL_law 296 = .ok (.iconst 1, 1) := by decide +kernel
theorem dL_law_297 : decode cL_law 297 = .ok (.iadd, 1) := by decide +kernel
theorem dL_law_298 : decode cL_law 298 = .ok (.iaload, 1) := by decide +kernel
theorem dL_law_299 : decode cL_law 299 = .ok (.aload_n 0, 1) := by decide +kernel
theorem dL_law_300 : decode cL_law 300 = .ok (.iload_n 3, 1) := by decide +kernel
theorem dL_law_301 : decode cL_law 301 = .ok (.iconst 2, 1) := by decide +kernel
theorem dL_law_302 : decode cL_law 302 = .ok (.iadd, 1) := by decide +kernel
theorem dL_law_303 : decode cL_law 303 = .ok (.iaload, 1) := by decide +kernel
theorem dL_law_304 : decode cL_law 304 = .ok (.invokevirtual 39, 3) := by decide +kernel
theorem dL_law_307 : decode cL_law 307 = .ok (.if_icmp .eq 585, 3) := by decide +kernel
theorem dL_law_310 : decode cL_law 310 = .ok (.iconst 0, 1) := by decide +kernel
theorem dL_law_311 : decode cL_law 311 = .ok (.ireturn, 1) := by decide +kernel
theorem dL_law_312 : decode cL_law 312 = .ok (.aload_n 1, 1) := by decide +kernel
theorem dL_law_313 : decode cL_law 313 = .ok (.aload_n 0, 1) := by decide +kernel
theorem dL_law_314 : decode cL_law 314 = .ok (.iload_n 3, 1) := by decide +kernel
theorem dL_law_315 : decode cL_law 315 = .ok (.iconst 1, 1) := by decide +kernel
theorem dL_law_316 : decode cL_law 316 = .ok (.iadd, 1) := by decide +kernel
theorem dL_law_317 : decode cL_law 317 = .ok (.iaload, 1) := by decide +kernel
theorem dL_law_318 : decode cL_law 318 = .ok (.aload_n 0, 1) := by decide +kernel
theorem dL_law_319 : decode cL_law 319 = .ok (.iload_n 3, 1) := by decide +kernel
theorem dL_law_320 : decode cL_law 320 = .ok (.iconst 2, 1) := by decide +kernel
theorem dL_law_321 : decode cL_law 321 = .ok (.iadd, 1) := by decide +kernel
theorem dL_law_322 : decode cL_law 322 = .ok (.iaload, 1) := by decide +kernel
theorem dL_law_323 : decode cL_law 323 = .ok (.invokevirtual 40, 3) := by decide +kernel
theorem dL_law_326 : decode cL_law 326 = .ok (.aload_n 2, 1) := by decide +kernel
theorem dL_law_327 : decode cL_law 327 = .ok (.aload_n 0, 1) := by decide +kernel
theorem dL_law_328 : decode cL_law 328 = .ok (.iload_n 3, 1) := by decide +kernel
theorem dL_law_329 : decode cL_law 329 = .ok (.iconst 1, 1) := by decide +kernel
theorem dL_law_330 : decode cL_law 330 = .ok (.iadd, 1) := by decide +kernel
theorem dL_law_331 : decode cL_law 331 = .ok (.iaload, 1) := by decide +kernel
theorem dL_law_332 : decode cL_law 332 = .ok (.aload_n 0, 1) := by decide +kernel
theorem dL_law_333 : decode cL_law 333 = .ok (.iload_n 3, 1) := by decide +kernel
theorem dL_law_334 : decode cL_law 334 = .ok (.iconst 2, 1) := by decide +kernel
theorem dL_law_335 : decode cL_law 335 = .ok (.iadd, 1) := by decide +kernel
theorem dL_law_336 : decode cL_law 336 = .ok (.iaload, 1) := by decide +kernel
theorem dL_law_337 : decode cL_law 337 = .ok (.invokevirtual 43, 3) := by decide +kernel
theorem dL_law_340 : decode cL_law 340 = .ok (.if_icmp .eq 552, 3) := by decide +kernel
theorem dL_law_343 : decode cL_law 343 = .ok (.iconst 0, 1) := by decide +kernel
theorem dL_law_344 : decode cL_law 344 = .ok (.ireturn, 1) := by decide +kernel
theorem dL_law_345 : decode cL_law 345 = .ok (.aload_n 1, 1) := by decide +kernel
theorem dL_law_346 : decode cL_law 346 = .ok (.aload_n 0, 1) := by decide +kernel
theorem dL_law_347 : decode cL_law 347 = .ok (.iload_n 3, 1) := by decide +kernel
theorem dL_law_348 : decode cL_law 348 = .ok (.iconst 1, 1) := by decide +kernel
theorem dL_law_349 : decode cL_law 349 = .ok (.iadd, 1) := by decide +kernel
theorem dL_law_350 : decode cL_law 350 = .ok (.iaload, 1) := by decide +kernel
theorem dL_law_351 : decode cL_law 351 = .ok (.invokevirtual 44, 3) := by decide +kernel
theorem dL_law_354 : decode cL_law 354 = .ok (.aload_n 2, 1) := by decide +kernel
theorem dL_law_355 : decode cL_law 355 = .ok (.aload_n 0, 1) := by decide +kernel
theorem dL_law_356 : decode cL_law 356 = .ok (.iload_n 3, 1) := by decide +kernel
theorem dL_law_357 : decode cL_law 357 = .ok (.iconst 1, 1) := by decide +kernel
theorem dL_law_358 : decode cL_law 358 = .ok (.iadd, 1) := by decide +kernel
theorem dL_law_359 : decode cL_law 359 = .ok (.iaload, 1) := by decide +kernel
theorem dL_law_360 : decode cL_law 360 = .ok (.invokevirtual 47, 3) := by decide +kernel
theorem dL_law_363 : decode cL_law 363 = .ok (.if_icmp .eq 529, 3) := by decide +kernel
theorem dL_law_366 : decode cL_law 366 = .ok (.iconst 0, 1) := by decide +kernel
theorem dL_law_367 : decode cL_law 367 = .ok (.ireturn, 1) := by decide +kernel
theorem dL_law_368 : decode cL_law 368 = .ok (.aload_n 1, 1) := by decide +kernel
theorem dL_law_369 : decode cL_law 369 = .ok (.aload_n 0, 1) := by decide +kernel
theorem dL_law_370 : decode cL_law 370 = .ok (.iload_n 3, 1) := by decide +kernel
theorem dL_law_371 : decode cL_law 371 = .ok (.iconst 1, 1) := by decide +kernel
theorem dL_law_372 : decode cL_law 372 = .ok (.iadd, 1) := by decide +kernel
theorem dL_law_373 : decode cL_law 373 = .ok (.iaload, 1) := by decide +kernel
theorem dL_law_374 : decode cL_law 374 = .ok (.aload_n 0, 1) := by decide +kernel
theorem dL_law_375 : decode cL_law 375 = .ok (.iload_n 3, 1) := by decide +kernel
theorem dL_law_376 : decode cL_law 376 = .ok (.iconst 2, 1) := by decide +kernel
theorem dL_law_377 : decode cL_law 377 = .ok (.iadd, 1) := by decide +kernel
theorem dL_law_378 : decode cL_law 378 = .ok (.iaload, 1) := by decide +kernel
theorem dL_law_379 : decode cL_law 379 = .ok (.invokevirtual 48, 3) := by decide +kernel
theorem dL_law_382 : decode cL_law 382 = .ok (.aload_n 2, 1) := by decide +kernel
theorem dL_law_383 : decode cL_law 383 = .ok (.aload_n 0, 1) := by decide +kernel
theorem dL_law_384 : decode cL_law 384 = .ok (.iload_n 3, 1) := by decide +kernel
theorem dL_law_385 : decode cL_law 385 = .ok (.iconst 1, 1) := by decide +kernel
theorem dL_law_386 : decode cL_law 386 = .ok (.iadd, 1) := by decide +kernel
theorem dL_law_387 : decode cL_law 387 = .ok (.iaload, 1) := by decide +kernel
theorem dL_law_388 : decode cL_law 388 = .ok (.aload_n 0, 1) := by decide +kernel
theorem dL_law_389 : decode cL_law 389 = .ok (.iload_n 3, 1) := by decide +kernel
theorem dL_law_390 : decode cL_law 390 = .ok (.iconst 2, 1) := by decide +kernel
theorem dL_law_391 : decode cL_law 391 = .ok (.iadd, 1) := by decide +kernel
theorem dL_law_392 : decode cL_law 392 = .ok (.iaload, 1) := by decide +kernel
theorem dL_law_393 : decode cL_law 393 = .ok (.invokevirtual 51, 3) := by decide +kernel
theorem dL_law_396 : decode cL_law 396 = .ok (.if_icmp .eq 496, 3) := by decide +kernel
theorem dL_law_399 : decode cL_law 399 = .ok (.iconst 0, 1) := by decide +kernel
theorem dL_law_400 : decode cL_law 400 = .ok (.ireturn, 1) := by decide +kernel
theorem dL_law_401 : decode cL_law 401 = .ok (.aload_n 1, 1) := by decide +kernel
theorem dL_law_402 : decode cL_law 402 = .ok (.invokevirtual 52, 3) := by decide +kernel
theorem dL_law_405 : decode cL_law 405 = .ok (.aload_n 2, 1) := by decide +kernel
theorem dL_law_406 : decode cL_law 406 = .ok (.invokevirtual 55, 3) := by decide +kernel
theorem dL_law_409 : decode cL_law 409 = .ok (.if_icmp .eq 483, 3) := by decide +kernel
theorem dL_law_412 : decode cL_law 412 = .ok (.iconst 0, 1) := by decide +kernel
theorem dL_law_413 : decode cL_law 413 = .ok (.ireturn, 1) := by decide +kernel
theorem dL_law_414 : decode cL_law 414 = .ok (.aload_n 1, 1) := by decide +kernel
theorem dL_law_415 : decode cL_law 415 = .ok (.invokevirtual 56, 3) := by decide +kernel
theorem dL_law_418 : decode cL_law 418 = .ok (.aload_n 2, 1) := by decide +kernel
theorem dL_law_419 : decode cL_law 419 = .ok (.invokevirtual 59, 3) := by decide +kernel
theorem dL_law_422 : decode cL_law 422 = .ok (.if_icmp .eq 470, 3) := by decide +kernel
theorem dL_law_425 : decode cL_law 425 = .ok (.iconst 0, 1) := by decide +kernel
theorem dL_law_426 : decode cL_law 426 = .ok (.ireturn, 1) := by decide +kernel
theorem dL_law_427 : decode cL_law 427 = .ok (.aload_n 1, 1) := by decide +kernel
theorem dL_law_428 : decode cL_law 428 = .ok (.aload_n 0, 1) := by decide +kernel
theorem dL_law_429 : decode cL_law 429 = .ok (.iload_n 3, 1) := by decide +kernel
theorem dL_law_430 : decode cL_law 430 = .ok (.iconst 1, 1) := by decide +kernel
theorem dL_law_431 : decode cL_law 431 = .ok (.iadd, 1) := by decide +kernel
theorem dL_law_432 : decode cL_law 432 = .ok (.iaload, 1) := by decide +kernel
theorem dL_law_433 : decode cL_law 433 = .ok (.aload_n 0, 1) := by decide +kernel
theorem dL_law_434 : decode cL_law 434 = .ok (.iload_n 3, 1) := by decide +kernel
theorem dL_law_435 : decode cL_law 435 = .ok (.iconst 2, 1) := by decide +kernel
theorem dL_law_436 : decode cL_law 436 = .ok (.iadd, 1) := by decide +kernel
theorem dL_law_437 : decode cL_law 437 = .ok (.iaload, 1) := by decide +kernel
theorem dL_law_438 : decode cL_law 438 = .ok (.invokevirtual 60, 3) := by decide +kernel
theorem dL_law_441 : decode cL_law 441 = .ok (.aload_n 2, 1) := by decide +kernel
theorem dL_law_442 : decode cL_law 442 = .ok (.aload_n 0, 1) := by decide +kernel
theorem dL_law_443 : decode cL_law 443 = .ok (.iload_n 3, 1) := by decide +kernel
theorem dL_law_444 : decode cL_law 444 = .ok (.iconst 1, 1) := by decide +kernel
theorem dL_law_445 : decode cL_law 445 = .ok (.iadd, 1) := by decide +kernel
theorem dL_law_446 : decode cL_law 446 = .ok (.iaload, 1) := by decide +kernel
theorem dL_law_447 : decode cL_law 447 = .ok (.aload_n 0, 1) := by decide +kernel
theorem dL_law_448 : decode cL_law 448 = .ok (.iload_n 3, 1) := by decide +kernel
theorem dL_law_449 : decode cL_law 449 = .ok (.iconst 2, 1) := by decide +kernel
theorem dL_law_450 : decode cL_law 450 = .ok (.iadd, 1) := by decide +kernel
theorem dL_law_451 : decode cL_law 451 = .ok (.iaload, 1) := by decide +kernel
theorem dL_law_452 : decode cL_law 452 = .ok (.invokevirtual 63, 3) := by decide +kernel
theorem dL_law_455 : decode cL_law 455 = .ok (.if_icmp .eq 437, 3) := by decide +kernel
theorem dL_law_458 : decode cL_law 458 = .ok (.iconst 0, 1) := by decide +kernel
theorem dL_law_459 : decode cL_law 459 = .ok (.ireturn, 1) := by decide +kernel
theorem dL_law_460 : decode cL_law 460 = .ok (.aload_n 1, 1) := by decide +kernel
theorem dL_law_461 : decode cL_law 461 = .ok (.aload_n 0, 1) := by decide +kernel
theorem dL_law_462 : decode cL_law 462 = .ok (.iload_n 3, 1) := by decide +kernel
theorem dL_law_463 : decode cL_law 463 = .ok (.iconst 1, 1) := by decide +kernel
theorem dL_law_464 : decode cL_law 464 = .ok (.iadd, 1) := by decide +kernel
theorem dL_law_465 : decode cL_law 465 = .ok (.iaload, 1) := by decide +kernel
theorem dL_law_466 : decode cL_law 466 = .ok (.aload_n 0, 1) := by decide +kernel
theorem dL_law_467 : decode cL_law 467 = .ok (.iload_n 3, 1) := by decide +kernel
theorem dL_law_468 : decode cL_law 468 = .ok (.iconst 2, 1) := by decide +kernel
theorem dL_law_469 : decode cL_law 469 = .ok (.iadd, 1) := by decide +kernel
theorem dL_law_470 : decode cL_law 470 = .ok (.iaload, 1) := by decide +kernel
theorem dL_law_471 : decode cL_law 471 = .ok (.invokevirtual 64, 3) := by decide +kernel
theorem dL_law_474 : decode cL_law 474 = .ok (.aload_n 2, 1) := by decide +kernel
theorem dL_law_475 : decode cL_law 475 = .ok (.aload_n 0, 1) := by decide +kernel
theorem dL_law_476 : decode cL_law 476 = .ok (.iload_n 3, 1) := by decide +kernel
theorem dL_law_477 : decode cL_law 477 = .ok (.iconst 1, 1) := by decide +kernel
theorem dL_law_478 : decode cL_law 478 = .ok (.iadd, 1) := by decide +kernel
theorem dL_law_479 : decode cL_law 479 = .ok (.iaload, 1) := by decide +kernel
theorem dL_law_480 : decode cL_law 480 = .ok (.aload_n 0, 1) := by decide +kernel
theorem dL_law_481 : decode cL_law 481 = .ok (.iload_n 3, 1) := by decide +kernel
theorem dL_law_482 : decode cL_law 482 = .ok (.iconst 2, 1) := by decide +kernel
theorem dL_law_483 : decode cL_law 483 = .ok (.iadd, 1) := by decide +kernel
theorem dL_law_484 : decode cL_law 484 = .ok (.iaload, 1) := by decide +kernel
theorem dL_law_485 : decode cL_law 485 = .ok (.invokevirtual 67, 3) := by decide +kernel
theorem dL_law_488 : decode cL_law 488 = .ok (.if_icmp .eq 404, 3) := by decide +kernel
theorem dL_law_491 : decode cL_law 491 = .ok (.iconst 0, 1) := by decide +kernel
theorem dL_law_492 : decode cL_law 492 = .ok (.ireturn, 1) := by decide +kernel
theorem dL_law_493 : decode cL_law 493 = .ok (.aload_n 1, 1) := by decide +kernel
theorem dL_law_494 : decode cL_law 494 = .ok (.aload_n 0, 1) := by decide +kernel
theorem dL_law_495 : decode cL_law 495 = .ok (.iload_n 3, 1) := by decide +kernel
theorem dL_law_496 : decode cL_law 496 = .ok (.iconst 1, 1) := by decide +kernel
theorem dL_law_497 : decode cL_law 497 = .ok (.iadd, 1) := by decide +kernel
theorem dL_law_498 : decode cL_law 498 = .ok (.iaload, 1) := by decide +kernel
theorem dL_law_499 : decode cL_law 499 = .ok (.invokevirtual 68, 3) := by decide +kernel
theorem dL_law_502 : decode cL_law 502 = .ok (.aload_n 2, 1) := by decide +kernel
theorem dL_law_503 : decode cL_law 503 = .ok (.aload_n 0, 1) := by decide +kernel
theorem dL_law_504 : decode cL_law 504 = .ok (.iload_n 3, 1) := by decide +kernel
theorem dL_law_505 : decode cL_law 505 = .ok (.iconst 1, 1) := by decide +kernel
theorem dL_law_506 : decode cL_law 506 = .ok (.iadd, 1) := by decide +kernel
theorem dL_law_507 : decode cL_law 507 = .ok (.iaload, 1) := by decide +kernel
theorem dL_law_508 : decode cL_law 508 = .ok (.invokevirtual 71, 3) := by decide +kernel
theorem dL_law_511 : decode cL_law 511 = .ok (.if_icmp .eq 381, 3) := by decide +kernel
theorem dL_law_514 : decode cL_law 514 = .ok (.iconst 0, 1) := by decide +kernel
theorem dL_law_515 : decode cL_law 515 = .ok (.ireturn, 1) := by decide +kernel
theorem dL_law_516 : decode cL_law 516 = .ok (.aload_n 1, 1) := by decide +kernel
theorem dL_law_517 : decode cL_law 517 = .ok (.aload_n 0, 1) := by decide +kernel
theorem dL_law_518 : decode cL_law 518 = .ok (.iload_n 3, 1) := by decide +kernel
theorem dL_law_519 : decode cL_law 519 = .ok (.iconst 1, 1) := by decide +kernel
theorem dL_law_520 : decode cL_law 520 = .ok (.iadd, 1) := by decide +kernel
theorem dL_law_521 : decode cL_law 521 = .ok (.iaload, 1) := by decide +kernel
theorem dL_law_522 : decode cL_law 522 = .ok (.invokevirtual 72, 3) := by decide +kernel
theorem dL_law_525 : decode cL_law 525 = .ok (.aload_n 2, 1) := by decide +kernel
theorem dL_law_526 : decode cL_law 526 = .ok (.aload_n 0, 1) := by decide +kernel
theorem dL_law_527 : decode cL_law 527 = .ok (.iload_n 3, 1) := by decide +kernel
theorem dL_law_528 : decode cL_law 528 = .ok (.iconst 1, 1) := by decide +kernel
theorem dL_law_529 : decode cL_law 529 = .ok (.iadd, 1) := by decide +kernel
theorem dL_law_530 : decode cL_law 530 = .ok (.iaload, 1) := by decide +kernel
theorem dL_law_531 : decode cL_law 531 = .ok (.invokevirtual 75, 3) := by decide +kernel
theorem dL_law_534 : decode cL_law 534 = .ok (.if_icmp .eq 358, 3) := by decide +kernel
theorem dL_law_537 : decode cL_law 537 = .ok (.iconst 0, 1) := by decide +kernel
theorem dL_law_538 : decode cL_law 538 = .ok (.ireturn, 1) := by decide +kernel
theorem dL_law_539 : decode cL_law 539 = .ok (.aload_n 1, 1) := by decide +kernel
theorem dL_law_540 : decode cL_law 540 = .ok (.aload_n 0, 1) := by decide +kernel
theorem dL_law_541 : decode cL_law 541 = .ok (.iload_n 3, 1) := by decide +kernel
theorem dL_law_542 : decode cL_law 542 = .ok (.iconst 1, 1) := by decide +kernel
theorem dL_law_543 : decode cL_law 543 = .ok (.iadd, 1) := by decide +kernel
theorem dL_law_544 : decode cL_law 544 = .ok (.iaload, 1) := by decide +kernel
theorem dL_law_545 : decode cL_law 545 = .ok (.invokevirtual 76, 3) := by decide +kernel
theorem dL_law_548 : decode cL_law 548 = .ok (.aload_n 2, 1) := by decide +kernel
theorem dL_law_549 : decode cL_law 549 = .ok (.aload_n 0, 1) := by decide +kernel
theorem dL_law_550 : decode cL_law 550 = .ok (.iload_n 3, 1) := by decide +kernel
theorem dL_law_551 : decode cL_law 551 = .ok (.iconst 1, 1) := by decide +kernel
theorem dL_law_552 : decode cL_law 552 = .ok (.iadd, 1) := by decide +kernel
theorem dL_law_553 : decode cL_law 553 = .ok (.iaload, 1) := by decide +kernel
theorem dL_law_554 : decode cL_law 554 = .ok (.invokevirtual 79, 3) := by decide +kernel
theorem dL_law_557 : decode cL_law 557 = .ok (.if_icmp .eq 335, 3) := by decide +kernel
theorem dL_law_560 : decode cL_law 560 = .ok (.iconst 0, 1) := by decide +kernel
theorem dL_law_561 : decode cL_law 561 = .ok (.ireturn, 1) := by decide +kernel
theorem dL_law_562 : decode cL_law 562 = .ok (.aload_n 1, 1) := by decide +kernel
theorem dL_law_563 : decode cL_law 563 = .ok (.aload_n 0, 1) := by decide +kernel
theorem dL_law_564 : decode cL_law 564 = .ok (.iload_n 3, 1) := by decide +kernel
theorem dL_law_565 : decode cL_law 565 = .ok (.iconst 1, 1) := by decide +kernel
theorem dL_law_566 : decode cL_law 566 = .ok (.iadd, 1) := by decide +kernel
theorem dL_law_567 : decode cL_law 567 = .ok (.iaload, 1) := by decide +kernel
theorem dL_law_568 : decode cL_law 568 = .ok (.aload_n 0, 1) := by decide +kernel
theorem dL_law_569 : decode cL_law 569 = .ok (.iload_n 3, 1) := by decide +kernel
theorem dL_law_570 : decode cL_law 570 = .ok (.iconst 2, 1) := by decide +kernel
theorem dL_law_571 : decode cL_law 571 = .ok (.iadd, 1) := by decide +kernel
theorem dL_law_572 : decode cL_law 572 = .ok (.iaload, 1) := by decide +kernel
theorem dL_law_573 : decode cL_law 573 = .ok (.invokevirtual 80, 3) := by decide +kernel
theorem dL_law_576 : decode cL_law 576 = .ok (.aload_n 2, 1) := by decide +kernel
theorem dL_law_577 : decode cL_law 577 = .ok (.aload_n 0, 1) := by decide +kernel
theorem dL_law_578 : decode cL_law 578 = .ok (.iload_n 3, 1) := by decide +kernel
theorem dL_law_579 : decode cL_law 579 = .ok (.iconst 1, 1) := by decide +kernel
theorem dL_law_580 : decode cL_law 580 = .ok (.iadd, 1) := by decide +kernel
theorem dL_law_581 : decode cL_law 581 = .ok (.iaload, 1) := by decide +kernel
theorem dL_law_582 : decode cL_law 582 = .ok (.aload_n 0, 1) := by decide +kernel
theorem dL_law_583 : decode cL_law 583 = .ok (.iload_n 3, 1) := by decide +kernel
theorem dL_law_584 : decode cL_law 584 = .ok (.iconst 2, 1) := by decide +kernel
theorem dL_law_585 : decode cL_law 585 = .ok (.iadd, 1) := by decide +kernel
theorem dL_law_586 : decode cL_law 586 = .ok (.iaload, 1) := by decide +kernel
theorem dL_law_587 : decode cL_law 587 = .ok (.invokevirtual 83, 3) := by decide +kernel
theorem dL_law_590 : decode cL_law 590 = .ok (.if_icmp .eq 302, 3) := by decide +kernel
theorem dL_law_593 : decode cL_law 593 = .ok (.iconst 0, 1) := by decide +kernel
theorem dL_law_594 : decode cL_law 594 = .ok (.ireturn, 1) := by decide +kernel
theorem dL_law_595 : decode cL_law 595 = .ok (.aload_n 1, 1) := by decide +kernel
theorem dL_law_596 : decode cL_law 596 = .ok (.aload_n 0, 1) := by decide +kernel
theorem dL_law_597 : decode cL_law 597 = .ok (.iload_n 3, 1) := by decide +kernel
theorem dL_law_598 : decode cL_law 598 = .ok (.iconst 1, 1) := by decide +kernel
theorem dL_law_599 : decode cL_law 599 = .ok (.iadd, 1) := by decide +kernel
theorem dL_law_600 : decode cL_law 600 = .ok (.iaload, 1) := by decide +kernel
theorem dL_law_601 : decode cL_law 601 = .ok (.aload_n 0, 1) := by decide +kernel
theorem dL_law_602 : decode cL_law 602 = .ok (.iload_n 3, 1) := by decide +kernel
theorem dL_law_603 : decode cL_law 603 = .ok (.iconst 2, 1) := by decide +kernel
theorem dL_law_604 : decode cL_law 604 = .ok (.iadd, 1) := by decide +kernel
theorem dL_law_605 : decode cL_law 605 = .ok (.iaload, 1) := by decide +kernel
theorem dL_law_606 : decode cL_law 606 = .ok (.aload_n 0, 1) := by decide +kernel
theorem dL_law_607 : decode cL_law 607 = .ok (.iload_n 3, 1) := by decide +kernel
theorem dL_law_608 : decode cL_law 608 = .ok (.iconst 3, 1) := by decide +kernel
theorem dL_law_609 : decode cL_law 609 = .ok (.iadd, 1) := by decide +kernel
theorem dL_law_610 : decode cL_law 610 = .ok (.iaload, 1) := by decide +kernel
theorem dL_law_611 : decode cL_law 611 = .ok (.invokevirtual 84, 3) := by decide +kernel
theorem dL_law_614 : decode cL_law 614 = .ok (.aload_n 2, 1) := by decide +kernel
theorem dL_law_615 : decode cL_law 615 = .ok (.aload_n 0, 1) := by decide +kernel
theorem dL_law_616 : decode cL_law 616 = .ok (.iload_n 3, 1) := by decide +kernel
theorem dL_law_617 : decode cL_law 617 = .ok (.iconst 1, 1) := by decide +kernel
theorem dL_law_618 : decode cL_law 618 = .ok (.iadd, 1) := by decide +kernel
theorem dL_law_619 : decode cL_law 619 = .ok (.iaload, 1) := by decide +kernel
theorem dL_law_620 : decode cL_law 620 = .ok (.aload_n 0, 1) := by decide +kernel
theorem dL_law_621 : decode cL_law 621 = .ok (.iload_n 3, 1) := by decide +kernel
theorem dL_law_622 : decode cL_law 622 = .ok (.iconst 2, 1) := by decide +kernel
theorem dL_law_623 : decode cL_law 623 = .ok (.iadd, 1) := by decide +kernel
theorem dL_law_624 : decode cL_law 624 = .ok (.iaload, 1) := by decide +kernel
theorem dL_law_625 : decode cL_law 625 = .ok (.aload_n 0, 1) := by decide +kernel
theorem dL_law_626 : decode cL_law 626 = .ok (.iload_n 3, 1) := by decide +kernel
theorem dL_law_627 : decode cL_law 627 = .ok (.iconst 3, 1) := by decide +kernel
theorem dL_law_628 : decode cL_law 628 = .ok (.iadd, 1) := by decide +kernel
theorem dL_law_629 : decode cL_law 629 = .ok (.iaload, 1) := by decide +kernel
theorem dL_law_630 : decode cL_law 630 = .ok (.invokevirtual 88, 3) := by decide +kernel
theorem dL_law_633 : decode cL_law 633 = .ok (.if_icmp .eq 259, 3) := by decide +kernel
theorem dL_law_636 : decode cL_law 636 = .ok (.iconst 0, 1) := by decide +kernel
theorem dL_law_637 : decode cL_law 637 = .ok (.ireturn, 1) := by decide +kernel
theorem dL_law_638 : decode cL_law 638 = .ok (.aload_n 1, 1) := by decide +kernel
theorem dL_law_639 : decode cL_law 639 = .ok (.aload_n 0, 1) := by decide +kernel
theorem dL_law_640 : decode cL_law 640 = .ok (.iload_n 3, 1) := by decide +kernel
theorem dL_law_641 : decode cL_law 641 = .ok (.iconst 1, 1) := by decide +kernel
theorem dL_law_642 : decode cL_law 642 = .ok (.iadd, 1) := by decide +kernel
theorem dL_law_643 : decode cL_law 643 = .ok (.iaload, 1) := by decide +kernel
theorem dL_law_644 : decode cL_law 644 = .ok (.invokevirtual 89, 3) := by decide +kernel
theorem dL_law_647 : decode cL_law 647 = .ok (.aload_n 2, 1) := by decide +kernel
theorem dL_law_648 : decode cL_law 648 = .ok (.aload_n 0, 1) := by decide +kernel
theorem dL_law_649 : decode cL_law 649 = .ok (.iload_n 3, 1) := by decide +kernel
theorem dL_law_650 : decode cL_law 650 = .ok (.iconst 1, 1) := by decide +kernel
theorem dL_law_651 : decode cL_law 651 = .ok (.iadd, 1) := by decide +kernel
theorem dL_law_652 : decode cL_law 652 = .ok (.iaload, 1) := by decide +kernel
theorem dL_law_653 : decode cL_law 653 = .ok (.invokevirtual 92, 3) := by decide +kernel
theorem dL_law_656 : decode cL_law 656 = .ok (.if_icmp .eq 236, 3) := by decide +kernel
theorem dL_law_659 : decode cL_law 659 = .ok (.iconst 0, 1) := by decide +kernel
theorem dL_law_660 : decode cL_law 660 = .ok (.ireturn, 1) := by decide +kernel
theorem dL_law_661 : decode cL_law 661 = .ok (.aload_n 1, 1) := by decide +kernel
theorem dL_law_662 : decode cL_law 662 = .ok (.aload_n 0, 1) := by decide +kernel
theorem dL_law_663 : decode cL_law 663 = .ok (.iload_n 3, 1) := by decide +kernel
theorem dL_law_664 : decode cL_law 664 = .ok (.iconst 1, 1) := by decide +kernel
theorem dL_law_665 : decode cL_law 665 = .ok (.iadd, 1) := by decide +kernel
theorem dL_law_666 : decode cL_law 666 = .ok (.iaload, 1) := by decide +kernel
theorem dL_law_667 : decode cL_law 667 = .ok (.aload_n 0, 1) := by decide +kernel
theorem dL_law_668 : decode cL_law 668 = .ok (.iload_n 3, 1) := by decide +kernel
theorem dL_law_669 : decode cL_law 669 = .ok (.iconst 2, 1) := by decide +kernel
theorem dL_law_670 : decode cL_law 670 = .ok (.iadd, 1) := by decide +kernel
theorem dL_law_671 : decode cL_law 671 = .ok (.iaload, 1) := by decide +kernel
theorem dL_law_672 : decode cL_law 672 = .ok (.invokevirtual 93, 3) := by decide +kernel
theorem dL_law_675 : decode cL_law 675 = .ok (.aload_n 2, 1) := by decide +kernel
theorem dL_law_676 : decode cL_law 676 = .ok (.aload_n 0, 1) := by decide +kernel
theorem dL_law_677 : decode cL_law 677 = .ok (.iload_n 3, 1) := by decide +kernel
theorem dL_law_678 : decode cL_law 678 = .ok (.iconst 1, 1) := by decide +kernel
theorem dL_law_679 : decode cL_law 679 = .ok (.iadd, 1) := by decide +kernel
theorem dL_law_680 : decode cL_law 680 = .ok (.iaload, 1) := by decide +kernel
theorem dL_law_681 : decode cL_law 681 = .ok (.aload_n 0, 1) := by decide +kernel
theorem dL_law_682 : decode cL_law 682 = .ok (.iload_n 3, 1) := by decide +kernel
theorem dL_law_683 : decode cL_law 683 = .ok (.iconst 2, 1) := by decide +kernel
theorem dL_law_684 : decode cL_law 684 = .ok (.iadd, 1) := by decide +kernel
theorem dL_law_685 : decode cL_law 685 = .ok (.iaload, 1) := by decide +kernel
theorem dL_law_686 : decode cL_law 686 = .ok (.invokevirtual 96, 3) := by decide +kernel
theorem dL_law_689 : decode cL_law 689 = .ok (.if_icmp .eq 203, 3) := by decide +kernel
theorem dL_law_692 : decode cL_law 692 = .ok (.iconst 0, 1) := by decide +kernel
theorem dL_law_693 : decode cL_law 693 = .ok (.ireturn, 1) := by decide +kernel
theorem dL_law_694 : decode cL_law 694 = .ok (.aload_n 1, 1) := by decide +kernel
theorem dL_law_695 : decode cL_law 695 = .ok (.aload_n 0, 1) := by decide +kernel
theorem dL_law_696 : decode cL_law 696 = .ok (.iload_n 3, 1) := by decide +kernel
theorem dL_law_697 : decode cL_law 697 = .ok (.iconst 1, 1) := by decide +kernel
theorem dL_law_698 : decode cL_law 698 = .ok (.iadd, 1) := by decide +kernel
theorem dL_law_699 : decode cL_law 699 = .ok (.iaload, 1) := by decide +kernel
theorem dL_law_700 : decode cL_law 700 = .ok (.aload_n 0, 1) := by decide +kernel
theorem dL_law_701 : decode cL_law 701 = .ok (.iload_n 3, 1) := by decide +kernel
theorem dL_law_702 : decode cL_law 702 = .ok (.iconst 2, 1) := by decide +kernel
theorem dL_law_703 : decode cL_law 703 = .ok (.iadd, 1) := by decide +kernel
theorem dL_law_704 : decode cL_law 704 = .ok (.iaload, 1) := by decide +kernel
theorem dL_law_705 : decode cL_law 705 = .ok (.invokevirtual 97, 3) := by decide +kernel
theorem dL_law_708 : decode cL_law 708 = .ok (.aload_n 2, 1) := by decide +kernel
theorem dL_law_709 : decode cL_law 709 = .ok (.aload_n 0, 1) := by decide +kernel
theorem dL_law_710 : decode cL_law 710 = .ok (.iload_n 3, 1) := by decide +kernel
theorem dL_law_711 : decode cL_law 711 = .ok (.iconst 1, 1) := by decide +kernel
theorem dL_law_712 : decode cL_law 712 = .ok (.iadd, 1) := by decide +kernel
theorem dL_law_713 : decode cL_law 713 = .ok (.iaload, 1) := by decide +kernel
theorem dL_law_714 : decode cL_law 714 = .ok (.aload_n 0, 1) := by decide +kernel
theorem dL_law_715 : decode cL_law 715 = .ok (.iload_n 3, 1) := by decide +kernel
theorem dL_law_716 : decode cL_law 716 = .ok (.iconst 2, 1) := by decide +kernel
theorem dL_law_717 : decode cL_law 717 = .ok (.iadd, 1) := by decide +kernel
theorem dL_law_718 : decode cL_law 718 = .ok (.iaload, 1) := by decide +kernel
theorem dL_law_719 : decode cL_law 719 = .ok (.invokevirtual 100, 3) := by decide +kernel
theorem dL_law_722 : decode cL_law 722 = .ok (.if_icmp .eq 170, 3) := by decide +kernel
theorem dL_law_725 : decode cL_law 725 = .ok (.iconst 0, 1) := by decide +kernel
theorem dL_law_726 : decode cL_law 726 = .ok (.ireturn, 1) := by decide +kernel
theorem dL_law_727 : decode cL_law 727 = .ok (.aload_n 1, 1) := by decide +kernel
theorem dL_law_728 : decode cL_law 728 = .ok (.invokevirtual 101, 3) := by decide +kernel
theorem dL_law_731 : decode cL_law 731 = .ok (.aload_n 2, 1) := by decide +kernel
theorem dL_law_732 : decode cL_law 732 = .ok (.invokevirtual 104, 3) := by decide +kernel
theorem dL_law_735 : decode cL_law 735 = .ok (.if_icmp .eq 157, 3) := by decide +kernel
theorem dL_law_738 : decode cL_law 738 = .ok (.iconst 0, 1) := by decide +kernel
theorem dL_law_739 : decode cL_law 739 = .ok (.ireturn, 1) := by decide +kernel
theorem dL_law_740 : decode cL_law 740 = .ok (.aload_n 1, 1) := by decide +kernel
theorem dL_law_741 : decode cL_law 741 = .ok (.invokevirtual 105, 3) := by decide +kernel
theorem dL_law_744 : decode cL_law 744 = .ok (.aload_n 2, 1) := by decide +kernel
theorem dL_law_745 : decode cL_law 745 = .ok (.invokevirtual 108, 3) := by decide +kernel
theorem dL_law_748 : decode cL_law 748 = .ok (.if_icmp .eq 144, 3) := by decide +kernel
theorem dL_law_751 : decode cL_law 751 = .ok (.iconst 0, 1) := by decide +kernel
theorem dL_law_752 : decode cL_law 752 = .ok (.ireturn, 1) := by decide +kernel
theorem dL_law_753 : decode cL_law 753 = .ok (.aload_n 1, 1) := by decide +kernel
theorem dL_law_754 : decode cL_law 754 = .ok (.aload_n 0, 1) := by decide +kernel
theorem dL_law_755 : decode cL_law 755 = .ok (.iload_n 3, 1) := by decide +kernel
theorem dL_law_756 : decode cL_law 756 = .ok (.iconst 1, 1) := by decide +kernel
theorem dL_law_757 : decode cL_law 757 = .ok (.iadd, 1) := by decide +kernel
theorem dL_law_758 : decode cL_law 758 = .ok (.iaload, 1) := by decide +kernel
theorem dL_law_759 : decode cL_law 759 = .ok (.invokevirtual 109, 3) := by decide +kernel
theorem dL_law_762 : decode cL_law 762 = .ok (.aload_n 2, 1) := by decide +kernel
theorem dL_law_763 : decode cL_law 763 = .ok (.aload_n 0, 1) := by decide +kernel
theorem dL_law_764 : decode cL_law 764 = .ok (.iload_n 3, 1) := by decide +kernel
theorem dL_law_765 : decode cL_law 765 = .ok (.iconst 1, 1) := by decide +kernel
theorem dL_law_766 : decode cL_law 766 = .ok (.iadd, 1) := by decide +kernel
theorem dL_law_767 : decode cL_law 767 = .ok (.iaload, 1) := by decide +kernel
theorem dL_law_768 : decode cL_law 768 = .ok (.invokevirtual 112, 3) := by decide +kernel
theorem dL_law_771 : decode cL_law 771 = .ok (.if_icmp .eq 121, 3) := by decide +kernel
theorem dL_law_774 : decode cL_law 774 = .ok (.iconst 0, 1) := by decide +kernel
theorem dL_law_775 : decode cL_law 775 = .ok (.ireturn, 1) := by decide +kernel
theorem dL_law_776 : decode cL_law 776 = .ok (.aload_n 1, 1) := by decide +kernel
theorem dL_law_777 : decode cL_law 777 = .ok (.aload_n 0, 1) := by decide +kernel
theorem dL_law_778 : decode cL_law 778 = .ok (.iload_n 3, 1) := by decide +kernel
theorem dL_law_779 : decode cL_law 779 = .ok (.iconst 1, 1) := by decide +kernel
theorem dL_law_780 : decode cL_law 780 = .ok (.iadd, 1) := by decide +kernel
theorem dL_law_781 : decode cL_law 781 = .ok (.iaload, 1) := by decide +kernel
theorem dL_law_782 : decode cL_law 782 = .ok (.aload_n 0, 1) := by decide +kernel
theorem dL_law_783 : decode cL_law 783 = .ok (.iload_n 3, 1) := by decide +kernel
theorem dL_law_784 : decode cL_law 784 = .ok (.iconst 2, 1) := by decide +kernel
theorem dL_law_785 : decode cL_law 785 = .ok (.iadd, 1) := by decide +kernel
theorem dL_law_786 : decode cL_law 786 = .ok (.iaload, 1) := by decide +kernel
theorem dL_law_787 : decode cL_law 787 = .ok (.invokevirtual 113, 3) := by decide +kernel
theorem dL_law_790 : decode cL_law 790 = .ok (.aload_n 2, 1) := by decide +kernel
theorem dL_law_791 : decode cL_law 791 = .ok (.aload_n 0, 1) := by decide +kernel
theorem dL_law_792 : decode cL_law 792 = .ok (.iload_n 3, 1) := by decide +kernel
theorem dL_law_793 : decode cL_law 793 = .ok (.iconst 1, 1) := by decide +kernel
theorem dL_law_794 : decode cL_law 794 = .ok (.iadd, 1) := by decide +kernel
theorem dL_law_795 : decode cL_law 795 = .ok (.iaload, 1) := by decide +kernel
theorem dL_law_796 : decode cL_law 796 = .ok (.aload_n 0, 1) := by decide +kernel
theorem dL_law_797 : decode cL_law 797 = .ok (.iload_n 3, 1) := by decide +kernel
theorem dL_law_798 : decode cL_law 798 = .ok (.iconst 2, 1) := by decide +kernel
theorem dL_law_799 : decode cL_law 799 = .ok (.iadd, 1) := by decide +kernel
theorem dL_law_800 : decode cL_law 800 = .ok (.iaload, 1) := by decide +kernel
theorem dL_law_801 : decode cL_law 801 = .ok (.invokevirtual 116, 3) := by decide +kernel
theorem dL_law_804 : decode cL_law 804 = .ok (.if_icmp .eq 88, 3) := by decide +kernel
theorem dL_law_807 : decode cL_law 807 = .ok (.iconst 0, 1) := by decide +kernel
theorem dL_law_808 : decode cL_law 808 = .ok (.ireturn, 1) := by decide +kernel
theorem dL_law_809 : decode cL_law 809 = .ok (.aload_n 1, 1) := by decide +kernel
theorem dL_law_810 : decode cL_law 810 = .ok (.aload_n 0, 1) := by decide +kernel
theorem dL_law_811 : decode cL_law 811 = .ok (.iload_n 3, 1) := by decide +kernel
theorem dL_law_812 : decode cL_law 812 = .ok (.iconst 1, 1) := by decide +kernel
theorem dL_law_813 : decode cL_law 813 = .ok (.iadd, 1) := by decide +kernel
theorem dL_law_814 : decode cL_law 814 = .ok (.iaload, 1) := by decide +kernel
theorem dL_law_815 : decode cL_law 815 = .ok (.invokevirtual 117, 3) := by decide +kernel
theorem dL_law_818 : decode cL_law 818 = .ok (.aload_n 2, 1) := by decide +kernel
theorem dL_law_819 : decode cL_law 819 = .ok (.aload_n 0, 1) := by decide +kernel
theorem dL_law_820 : decode cL_law 820 = .ok (.iload_n 3, 1) := by decide +kernel
theorem dL_law_821 : decode cL_law 821 = .ok (.iconst 1, 1) := by decide +kernel
theorem dL_law_822 : decode cL_law 822 = .ok (.iadd, 1) := by decide +kernel
theorem dL_law_823 : decode cL_law 823 = .ok (.iaload, 1) := by decide +kernel
theorem dL_law_824 : decode cL_law 824 = .ok (.invokevirtual 120, 3) := by decide +kernel
theorem dL_law_827 : decode cL_law 827 = .ok (.if_icmp .eq 65, 3) := by decide +kernel
theorem dL_law_830 : decode cL_law 830 = .ok (.iconst 0, 1) := by decide +kernel
theorem dL_law_831 : decode cL_law 831 = .ok (.ireturn, 1) := by decide +kernel
theorem dL_law_832 : decode cL_law 832 = .ok (.aload_n 1, 1) := by decide +kernel
theorem dL_law_833 : decode cL_law 833 = .ok (.aload_n 0, 1) := by decide +kernel
theorem dL_law_834 : decode cL_law 834 = .ok (.iload_n 3, 1) := by decide +kernel
theorem dL_law_835 : decode cL_law 835 = .ok (.iconst 1, 1) := by decide +kernel
theorem dL_law_836 : decode cL_law 836 = .ok (.iadd, 1) := by decide +kernel
theorem dL_law_837 : decode cL_law 837 = .ok (.iaload, 1) := by decide +kernel
theorem dL_law_838 : decode cL_law 838 = .ok (.invokevirtual 121, 3) := by decide +kernel
theorem dL_law_841 : decode cL_law 841 = .ok (.aload_n 2, 1) := by decide +kernel
theorem dL_law_842 : decode cL_law 842 = .ok (.aload_n 0, 1) := by decide +kernel
theorem dL_law_843 : decode cL_law 843 = .ok (.iload_n 3, 1) := by decide +kernel
theorem dL_law_844 : decode cL_law 844 = .ok (.iconst 1, 1) := by decide +kernel
theorem dL_law_845 : decode cL_law 845 = .ok (.iadd, 1) := by decide +kernel
theorem dL_law_846 : decode cL_law 846 = .ok (.iaload, 1) := by decide +kernel
theorem dL_law_847 : decode cL_law 847 = .ok (.invokevirtual 124, 3) := by decide +kernel
theorem dL_law_850 : decode cL_law 850 = .ok (.if_icmp .eq 42, 3) := by decide +kernel
theorem dL_law_853 : decode cL_law 853 = .ok (.iconst 0, 1) := by decide +kernel
theorem dL_law_854 : decode cL_law 854 = .ok (.ireturn, 1) := by decide +kernel
theorem dL_law_855 : decode cL_law 855 = .ok (.aload_n 1, 1) := by decide +kernel
theorem dL_law_856 : decode cL_law 856 = .ok (.aload_n 0, 1) := by decide +kernel
theorem dL_law_857 : decode cL_law 857 = .ok (.iload_n 3, 1) := by decide +kernel
theorem dL_law_858 : decode cL_law 858 = .ok (.iconst 1, 1) := by decide +kernel
theorem dL_law_859 : decode cL_law 859 = .ok (.iadd, 1) := by decide +kernel
theorem dL_law_860 : decode cL_law 860 = .ok (.iaload, 1) := by decide +kernel
theorem dL_law_861 : decode cL_law 861 = .ok (.invokevirtual 125, 3) := by decide +kernel
theorem dL_law_864 : decode cL_law 864 = .ok (.aload_n 2, 1) := by decide +kernel
theorem dL_law_865 : decode cL_law 865 = .ok (.aload_n 0, 1) := by decide +kernel
theorem dL_law_866 : decode cL_law 866 = .ok (.iload_n 3, 1) := by decide +kernel
theorem dL_law_867 : decode cL_law 867 = .ok (.iconst 1, 1) := by decide +kernel
theorem dL_law_868 : decode cL_law 868 = .ok (.iadd, 1) := by decide +kernel
theorem dL_law_869 : decode cL_law 869 = .ok (.iaload, 1) := by decide +kernel
theorem dL_law_870 : decode cL_law 870 = .ok (.invokevirtual 128, 3) := by decide +kernel
theorem dL_law_873 : decode cL_law 873 = .ok (.if_icmp .eq 19, 3) := by decide +kernel
theorem dL_law_876 : decode cL_law 876 = .ok (.iconst 0, 1) := by decide +kernel
theorem dL_law_877 : decode cL_law 877 = .ok (.ireturn, 1) := by decide +kernel
theorem dL_law_878 : decode cL_law 878 = .ok (.aload_n 1, 1) := by decide +kernel
theorem dL_law_879 : decode cL_law 879 = .ok (.invokevirtual 129, 3) := by decide +kernel
theorem dL_law_882 : decode cL_law 882 = .ok (.aload_n 2, 1) := by decide +kernel
theorem dL_law_883 : decode cL_law 883 = .ok (.invokevirtual 133, 3) := by decide +kernel
theorem dL_law_886 : decode cL_law 886 = .ok (.lcmp, 1) := by decide +kernel
theorem dL_law_887 : decode cL_law 887 = .ok (.ifCond .eq 5, 3) := by decide +kernel
theorem dL_law_890 : decode cL_law 890 = .ok (.iconst 0, 1) := by decide +kernel
theorem dL_law_891 : decode cL_law 891 = .ok (.ireturn, 1) := by decide +kernel
theorem dL_law_892 : decode cL_law 892 = .ok (.iinc 3 4, 3) := by decide +kernel
theorem dL_law_895 : decode cL_law 895 = .ok (.goto (-877), 3) := by decide +kernel
theorem dL_law_898 : decode cL_law 898 = .ok (.iconst 1, 1) := by decide +kernel
theorem dL_law_899 : decode cL_law 899 = .ok (.ireturn, 1) := by decide +kernel
