/-! ===== BEGIN printed: names, fields, word lists, decode rows ===== -/
def RX0 : String := "PassedClocks$Course"
def TX0 : u_T := fun k => match k with
  | 0 => ("PassedClocks$Course", "plan", "LPassedClocks$Plan;", false)
  | 1 => ("PassedClocks$Course", "hour", "I", false)
  | 2 => ("PassedClocks$Course", "passings", "I", false)
  | 3 => ("PassedClocks$Course", "last", "[I", true)
  | 4 => ("PassedClocks$Course", "passed", "[I", true)
  | 5 => ("PassedClocks$Course", "keptCount", "[I", true)
  | 6 => ("PassedClocks$Course", "watched", "Z", false)
  | 7 => ("PassedClocks$Course", "widest", "I", false)
  | 8 => ("PassedClocks$Course", "deed", "I", false)
  | 9 => ("PassedClocks$Course", "week", "I", false)
  | 10 => ("PassedClocks$Course", "off", "[I", true)
  | 11 => ("PassedClocks$Course", "since", "[I", true)
  | 12 => ("PassedClocks$Course", "kept", "[I", true)
  | _ => ("PassedClocks$Course", "sorted", "[I", true)
def tyX0 : Nat → FieldType := fun k => match k with
  | 0 => .object "PassedClocks$Plan"
  | 1 => .int
  | 2 => .int
  | 3 => .array .int
  | 4 => .array .int
  | 5 => .array .int
  | 6 => .boolean
  | 7 => .int
  | 8 => .int
  | 9 => .int
  | 10 => .array .int
  | 11 => .array .int
  | 12 => .array .int
  | _ => .array .int
abbrev wsX00 : List Cond := u_ws RX0 TX0 14
theorem nmX0 : ∀ a, a < 14 → ∀ b, b < 14 → a ≠ b → (TX0 a).2.1 ≠ (TX0 b).2.1 := by decide +kernel
theorem tyX0_ok : ∀ k, k < 14 → parseFieldDescriptor (TX0 k).2.2.1 = some (tyX0 k) := by decide +kernel
abbrev cX0_init : ByteArray := prog_2_method_1_code
def yX0_init : MethodName := ⟨RX0, "<init>", "(LPassedClocks$Plan;)V"⟩
abbrev cX0_begin : ByteArray := prog_2_method_2_code
def yX0_begin : MethodName := ⟨RX0, "begin", "(LPassedClocks$Plan;)V"⟩
abbrev cX0_copy : ByteArray := prog_2_method_3_code
def yX0_copy : MethodName := ⟨RX0, "copy", "(LPassedClocks$Course;)V"⟩
abbrev cX0_shift : ByteArray := prog_2_method_4_code
def yX0_shift : MethodName := ⟨RX0, "shift", "(II)V"⟩
abbrev cX0_goOn : ByteArray := prog_2_method_5_code
def yX0_goOn : MethodName := ⟨RX0, "goOn", "(I)V"⟩
abbrev cX0_shoot : ByteArray := prog_2_method_6_code
def yX0_shoot : MethodName := ⟨RX0, "shoot", "(II)V"⟩
abbrev cX0_meet : ByteArray := prog_2_method_7_code
def yX0_meet : MethodName := ⟨RX0, "meet", "(III)V"⟩
abbrev cX0_act : ByteArray := prog_2_method_8_code
def yX0_act : MethodName := ⟨RX0, "act", "(III)V"⟩
abbrev cX0_partOf : ByteArray := prog_2_method_9_code
def yX0_partOf : MethodName := ⟨RX0, "partOf", "(II)I"⟩
abbrev cX0_keepAhead : ByteArray := prog_2_method_10_code
def yX0_keepAhead : MethodName := ⟨RX0, "keepAhead", "(II)V"⟩
abbrev cX0_middleKept : ByteArray := prog_2_method_11_code
def yX0_middleKept : MethodName := ⟨RX0, "middleKept", "(I)I"⟩
abbrev cX0_settle : ByteArray := prog_2_method_12_code
def yX0_settle : MethodName := ⟨RX0, "settle", "(II)V"⟩
abbrev cX0_offAt : ByteArray := prog_2_method_13_code
def yX0_offAt : MethodName := ⟨RX0, "offAt", "(II)I"⟩
abbrev cX0_bounded : ByteArray := prog_2_method_14_code
def yX0_bounded : MethodName := ⟨RX0, "bounded", "(J)I"⟩
abbrev cX0_offNow : ByteArray := prog_2_method_15_code
def yX0_offNow : MethodName := ⟨RX0, "offNow", "(I)I"⟩
abbrev cX0_noteWidest : ByteArray := prog_2_method_16_code
def yX0_noteWidest : MethodName := ⟨RX0, "noteWidest", "(I)V"⟩
abbrev cX0_noteAll : ByteArray := prog_2_method_17_code
def yX0_noteAll : MethodName := ⟨RX0, "noteAll", "()V"⟩
abbrev cX0_apart : ByteArray := prog_2_method_18_code
def yX0_apart : MethodName := ⟨RX0, "apart", "()I"⟩
def RX1 : String := "PassedClocks$Extremes"
def TX1 : u_T := fun k => match k with
  | 0 => ("PassedClocks$Extremes", "least", "[I", true)
  | 1 => ("PassedClocks$Extremes", "leastAt", "[I", true)
  | 2 => ("PassedClocks$Extremes", "most", "[I", true)
  | 3 => ("PassedClocks$Extremes", "mostAt", "[I", true)
  | 4 => ("PassedClocks$Extremes", "person", "I", false)
  | 5 => ("PassedClocks$Extremes", "clock", "I", false)
  | _ => ("PassedClocks$Extremes", "hour", "I", false)
def tyX1 : Nat → FieldType := fun k => match k with
  | 0 => .array .int
  | 1 => .array .int
  | 2 => .array .int
  | 3 => .array .int
  | 4 => .int
  | 5 => .int
  | _ => .int
abbrev wsX10 : List Cond := u_ws RX1 TX1 7
theorem nmX1 : ∀ a, a < 7 → ∀ b, b < 7 → a ≠ b → (TX1 a).2.1 ≠ (TX1 b).2.1 := by decide +kernel
theorem tyX1_ok : ∀ k, k < 7 → parseFieldDescriptor (TX1 k).2.2.1 = some (tyX1 k) := by decide +kernel
abbrev cX1_init : ByteArray := prog_3_method_1_code
def yX1_init : MethodName := ⟨RX1, "<init>", "()V"⟩
abbrev cX1_forget : ByteArray := prog_3_method_2_code
def yX1_forget : MethodName := ⟨RX1, "forget", "()V"⟩
abbrev cX1_isOf : ByteArray := prog_3_method_3_code
def yX1_isOf : MethodName := ⟨RX1, "isOf", "(III)Z"⟩
abbrev cX1_start : ByteArray := prog_3_method_4_code
def yX1_start : MethodName := ⟨RX1, "start", "(III)V"⟩
abbrev cX1_note : ByteArray := prog_3_method_5_code
def yX1_note : MethodName := ⟨RX1, "note", "(LPassedClocks$Course;I)V"⟩
def RX2 : String := "PassedClocks$History"
def TX2 : u_T := fun k => match k with
  | 0 => ("PassedClocks$History", "off", "[I", true)
  | _ => ("PassedClocks$History", "apart", "[I", true)
def tyX2 : Nat → FieldType := fun k => match k with
  | 0 => .array .int
  | _ => .array .int
abbrev wsX20 : List Cond := u_ws RX2 TX2 2
theorem nmX2 : ∀ a, a < 2 → ∀ b, b < 2 → a ≠ b → (TX2 a).2.1 ≠ (TX2 b).2.1 := by decide +kernel
theorem tyX2_ok : ∀ k, k < 2 → parseFieldDescriptor (TX2 k).2.2.1 = some (tyX2 k) := by decide +kernel
abbrev cX2_init : ByteArray := prog_4_method_1_code
def yX2_init : MethodName := ⟨RX2, "<init>", "()V"⟩
abbrev cX2_write : ByteArray := prog_4_method_2_code
def yX2_write : MethodName := ⟨RX2, "write", "(LPassedClocks$Course;)V"⟩
def RX3 : String := "PassedClocks$Plan"
def TX3 : u_T := fun k => match k with
  | 0 => ("PassedClocks$Plan", "told", "LPassedClocks$Told;", false)
  | 1 => ("PassedClocks$Plan", "first", "[I", true)
  | 2 => ("PassedClocks$Plan", "gain", "[I", true)
  | 3 => ("PassedClocks$Plan", "custom", "[I", true)
  | 4 => ("PassedClocks$Plan", "ruled", "[Z", true)
  | 5 => ("PassedClocks$Plan", "deeds", "I", false)
  | 6 => ("PassedClocks$Plan", "deedHour", "[I", true)
  | 7 => ("PassedClocks$Plan", "deedPerson", "[I", true)
  | _ => ("PassedClocks$Plan", "deedClock", "[I", true)
def tyX3 : Nat → FieldType := fun k => match k with
  | 0 => .object "PassedClocks$Told"
  | 1 => .array .int
  | 2 => .array .int
  | 3 => .array .int
  | 4 => .array .boolean
  | 5 => .int
  | 6 => .array .int
  | 7 => .array .int
  | _ => .array .int
abbrev wsX30 : List Cond := u_ws RX3 TX3 9
theorem nmX3 : ∀ a, a < 9 → ∀ b, b < 9 → a ≠ b → (TX3 a).2.1 ≠ (TX3 b).2.1 := by decide +kernel
theorem tyX3_ok : ∀ k, k < 9 → parseFieldDescriptor (TX3 k).2.2.1 = some (tyX3 k) := by decide +kernel
abbrev cX3_init : ByteArray := prog_5_method_1_code
def yX3_init : MethodName := ⟨RX3, "<init>", "(LPassedClocks$Told;)V"⟩
abbrev cX3_follow : ByteArray := prog_5_method_2_code
def yX3_follow : MethodName := ⟨RX3, "follow", "(LPassedClocks$Told;)V"⟩
abbrev cX3_layDeeds : ByteArray := prog_5_method_3_code
def yX3_layDeeds : MethodName := ⟨RX3, "layDeeds", "(ZI)V"⟩
abbrev cX3_addDeed : ByteArray := prog_5_method_4_code
def yX3_addDeed : MethodName := ⟨RX3, "addDeed", "(III)V"⟩
abbrev cX3_isBehind : ByteArray := prog_5_method_5_code
def yX3_isBehind : MethodName := ⟨RX3, "isBehind", "(III)Z"⟩
abbrev cX3_change : ByteArray := prog_5_method_6_code
def yX3_change : MethodName := ⟨RX3, "change", "(II)V"⟩
abbrev cX3_setCustom : ByteArray := prog_5_method_7_code
def yX3_setCustom : MethodName := ⟨RX3, "setCustom", "(II)V"⟩
abbrev cX3_dropRules : ByteArray := prog_5_method_8_code
def yX3_dropRules : MethodName := ⟨RX3, "dropRules", "()V"⟩
abbrev cX3_makeRight : ByteArray := prog_5_method_9_code
def yX3_makeRight : MethodName := ⟨RX3, "makeRight", "(I)V"⟩
def RX4 : String := "PassedClocks$Reader"
def TX4 : u_T := fun k => match k with
  | 0 => ("PassedClocks$Reader", "tape", "[B", true)
  | 1 => ("PassedClocks$Reader", "bytes", "I", false)
  | 2 => ("PassedClocks$Reader", "fault", "I", false)
  | 3 => ("PassedClocks$Reader", "place", "I", false)
  | 4 => ("PassedClocks$Reader", "tokens", "LPassedClocks$Tokens;", true)
  | 5 => ("PassedClocks$Reader", "told", "LPassedClocks$Told;", false)
  | 6 => ("PassedClocks$Reader", "at", "I", false)
  | _ => ("PassedClocks$Reader", "knots", "I", false)
def tyX4 : Nat → FieldType := fun k => match k with
  | 0 => .array .byte
  | 1 => .int
  | 2 => .int
  | 3 => .int
  | 4 => .object "PassedClocks$Tokens"
  | 5 => .object "PassedClocks$Told"
  | 6 => .int
  | _ => .int
abbrev wsX40 : List Cond := u_ws RX4 TX4 8
theorem nmX4 : ∀ a, a < 8 → ∀ b, b < 8 → a ≠ b → (TX4 a).2.1 ≠ (TX4 b).2.1 := by decide +kernel
theorem tyX4_ok : ∀ k, k < 8 → parseFieldDescriptor (TX4 k).2.2.1 = some (tyX4 k) := by decide +kernel
abbrev cX4_init : ByteArray := prog_6_method_1_code
def yX4_init : MethodName := ⟨RX4, "<init>", "()V"⟩
abbrev cX4_take : ByteArray := prog_6_method_2_code
def yX4_take : MethodName := ⟨RX4, "take", "(I)V"⟩
abbrev cX4_read : ByteArray := prog_6_method_3_code
def yX4_read : MethodName := ⟨RX4, "read", "(ILPassedClocks$Told;)V"⟩
abbrev cX4_kind : ByteArray := prog_6_method_4_code
def yX4_kind : MethodName := ⟨RX4, "kind", "()I"⟩
abbrev cX4_step : ByteArray := prog_6_method_5_code
def yX4_step : MethodName := ⟨RX4, "step", "()V"⟩
abbrev cX4_refuse : ByteArray := prog_6_method_6_code
def yX4_refuse : MethodName := ⟨RX4, "refuse", "(I)V"⟩
abbrev cX4_expect : ByteArray := prog_6_method_7_code
def yX4_expect : MethodName := ⟨RX4, "expect", "(I)V"⟩
abbrev cX4_readClock : ByteArray := prog_6_method_8_code
def yX4_readClock : MethodName := ⟨RX4, "readClock", "()V"⟩
abbrev cX4_readPerson : ByteArray := prog_6_method_9_code
def yX4_readPerson : MethodName := ⟨RX4, "readPerson", "()V"⟩
abbrev cX4_readRound : ByteArray := prog_6_method_10_code
def yX4_readRound : MethodName := ⟨RX4, "readRound", "()V"⟩
abbrev cX4_readGun : ByteArray := prog_6_method_11_code
def yX4_readGun : MethodName := ⟨RX4, "readGun", "()V"⟩
abbrev cX4_readNewName : ByteArray := prog_6_method_12_code
def yX4_readNewName : MethodName := ⟨RX4, "readNewName", "(II)V"⟩
abbrev cX4_readToldName : ByteArray := prog_6_method_13_code
def yX4_readToldName : MethodName := ⟨RX4, "readToldName", "(II)I"⟩
abbrev cX4_readNumber : ByteArray := prog_6_method_14_code
def yX4_readNumber : MethodName := ⟨RX4, "readNumber", "(II)I"⟩
abbrev cX4_readSigned : ByteArray := prog_6_method_15_code
def yX4_readSigned : MethodName := ⟨RX4, "readSigned", "(I)I"⟩
abbrev cX4_readCustom : ByteArray := prog_6_method_16_code
def yX4_readCustom : MethodName := ⟨RX4, "readCustom", "(I)V"⟩
abbrev cX4_readRest : ByteArray := prog_6_method_17_code
def yX4_readRest : MethodName := ⟨RX4, "readRest", "(II)V"⟩
abbrev cX4_takeKnot : ByteArray := prog_6_method_18_code
def yX4_takeKnot : MethodName := ⟨RX4, "takeKnot", "()V"⟩
abbrev cX4_readEither : ByteArray := prog_6_method_19_code
def yX4_readEither : MethodName := ⟨RX4, "readEither", "(I)V"⟩
abbrev cX4_readBoth : ByteArray := prog_6_method_20_code
def yX4_readBoth : MethodName := ⟨RX4, "readBoth", "(I)V"⟩
abbrev cX4_readNot : ByteArray := prog_6_method_21_code
def yX4_readNot : MethodName := ⟨RX4, "readNot", "(I)V"⟩
abbrev cX4_readCompared : ByteArray := prog_6_method_22_code
def yX4_readCompared : MethodName := ⟨RX4, "readCompared", "(I)V"⟩
abbrev cX4_readSum : ByteArray := prog_6_method_23_code
def yX4_readSum : MethodName := ⟨RX4, "readSum", "(I)V"⟩
abbrev cX4_readProduct : ByteArray := prog_6_method_24_code
def yX4_readProduct : MethodName := ⟨RX4, "readProduct", "(I)V"⟩
abbrev cX4_readPart : ByteArray := prog_6_method_25_code
def yX4_readPart : MethodName := ⟨RX4, "readPart", "(I)V"⟩
def RX5 : String := "PassedClocks$Readings"
def TX5 : u_T := fun k => match k with
  | 0 => ("PassedClocks$Readings", "count", "I", false)
  | 1 => ("PassedClocks$Readings", "knownFirst", "I", false)
  | 2 => ("PassedClocks$Readings", "slot", "[I", true)
  | 3 => ("PassedClocks$Readings", "hour", "[I", true)
  | 4 => ("PassedClocks$Readings", "low", "[I", true)
  | 5 => ("PassedClocks$Readings", "high", "[I", true)
  | _ => ("PassedClocks$Readings", "byHour", "[I", true)
def tyX5 : Nat → FieldType := fun k => match k with
  | 0 => .int
  | 1 => .int
  | 2 => .array .int
  | 3 => .array .int
  | 4 => .array .int
  | 5 => .array .int
  | _ => .array .int
abbrev wsX50 : List Cond := u_ws RX5 TX5 7
theorem nmX5 : ∀ a, a < 7 → ∀ b, b < 7 → a ≠ b → (TX5 a).2.1 ≠ (TX5 b).2.1 := by decide +kernel
theorem tyX5_ok : ∀ k, k < 7 → parseFieldDescriptor (TX5 k).2.2.1 = some (tyX5 k) := by decide +kernel
abbrev cX5_init : ByteArray := prog_7_method_1_code
def yX5_init : MethodName := ⟨RX5, "<init>", "()V"⟩
abbrev cX5_clear : ByteArray := prog_7_method_2_code
def yX5_clear : MethodName := ⟨RX5, "clear", "()V"⟩
abbrev cX5_knownCount : ByteArray := prog_7_method_3_code
def yX5_knownCount : MethodName := ⟨RX5, "knownCount", "()I"⟩
abbrev cX5_add : ByteArray := prog_7_method_4_code
def yX5_add : MethodName := ⟨RX5, "add", "(IIII)I"⟩
abbrev cX5_fit : ByteArray := prog_7_method_5_code
def yX5_fit : MethodName := ⟨RX5, "fit", "(LPassedClocks$Course;)Z"⟩
abbrev cX5_firstWrong : ByteArray := prog_7_method_6_code
def yX5_firstWrong : MethodName := ⟨RX5, "firstWrong", "(LPassedClocks$Course;)I"⟩
abbrev cX5_isSo : ByteArray := prog_7_method_7_code
def yX5_isSo : MethodName := ⟨RX5, "isSo", "(ILPassedClocks$Course;)Z"⟩
def RX6 : String := "PassedClocks$Rules"
def TX6 : u_T := fun k => match k with
  | 0 => ("PassedClocks$Rules", "knots", "I", false)
  | 1 => ("PassedClocks$Rules", "kind", "[I", true)
  | 2 => ("PassedClocks$Rules", "number", "[I", true)
  | 3 => ("PassedClocks$Rules", "from", "[I", true)
  | 4 => ("PassedClocks$Rules", "until", "[I", true)
  | 5 => ("PassedClocks$Rules", "names", "[J", true)
  | _ => ("PassedClocks$Rules", "stack", "[J", true)
def tyX6 : Nat → FieldType := fun k => match k with
  | 0 => .int
  | 1 => .array .int
  | 2 => .array .int
  | 3 => .array .int
  | 4 => .array .int
  | 5 => .array .long
  | _ => .array .long
abbrev wsX60 : List Cond := u_ws RX6 TX6 7
theorem nmX6 : ∀ a, a < 7 → ∀ b, b < 7 → a ≠ b → (TX6 a).2.1 ≠ (TX6 b).2.1 := by decide +kernel
theorem tyX6_ok : ∀ k, k < 7 → parseFieldDescriptor (TX6 k).2.2.1 = some (tyX6 k) := by decide +kernel
abbrev cX6_init : ByteArray := prog_8_method_1_code
def yX6_init : MethodName := ⟨RX6, "<init>", "()V"⟩
abbrev cX6_clear : ByteArray := prog_8_method_2_code
def yX6_clear : MethodName := ⟨RX6, "clear", "()V"⟩
abbrev cX6_add : ByteArray := prog_8_method_3_code
def yX6_add : MethodName := ⟨RX6, "add", "(II)V"⟩
abbrev cX6_has : ByteArray := prog_8_method_4_code
def yX6_has : MethodName := ⟨RX6, "has", "(I)Z"⟩
abbrev cX6_name : ByteArray := prog_8_method_5_code
def yX6_name : MethodName := ⟨RX6, "name", "(IIII)V"⟩
abbrev cX6_value : ByteArray := prog_8_method_6_code
def yX6_value : MethodName := ⟨RX6, "value", "(I)J"⟩
abbrev cX6_joined : ByteArray := prog_8_method_7_code
def yX6_joined : MethodName := ⟨RX6, "joined", "(IJJ)J"⟩
def RX7 : String := "PassedClocks$Tokens"
def TX7 : u_T := fun k => match k with
  | 0 => ("PassedClocks$Tokens", "count", "I", false)
  | 1 => ("PassedClocks$Tokens", "kind", "[I", true)
  | 2 => ("PassedClocks$Tokens", "place", "[I", true)
  | 3 => ("PassedClocks$Tokens", "worth", "[I", true)
  | _ => ("PassedClocks$Tokens", "language", "[I", true)
def tyX7 : Nat → FieldType := fun k => match k with
  | 0 => .int
  | 1 => .array .int
  | 2 => .array .int
  | 3 => .array .int
  | _ => .array .int
abbrev wsX70 : List Cond := u_ws RX7 TX7 5
theorem nmX7 : ∀ a, a < 5 → ∀ b, b < 5 → a ≠ b → (TX7 a).2.1 ≠ (TX7 b).2.1 := by decide +kernel
theorem tyX7_ok : ∀ k, k < 5 → parseFieldDescriptor (TX7 k).2.2.1 = some (tyX7 k) := by decide +kernel
abbrev cX7_init : ByteArray := prog_9_method_1_code
def yX7_init : MethodName := ⟨RX7, "<init>", "()V"⟩
abbrev cX7_spelled : ByteArray := prog_9_method_2_code
def yX7_spelled : MethodName := ⟨RX7, "spelled", "(Ljava/lang/String;II)I"⟩
abbrev cX7_withLetter : ByteArray := prog_9_method_3_code
def yX7_withLetter : MethodName := ⟨RX7, "withLetter", "(III)I"⟩
abbrev cX7_isLetter : ByteArray := prog_9_method_4_code
def yX7_isLetter : MethodName := ⟨RX7, "isLetter", "(I)Z"⟩
abbrev cX7_isDigit : ByteArray := prog_9_method_5_code
def yX7_isDigit : MethodName := ⟨RX7, "isDigit", "(I)Z"⟩
abbrev cX7_split : ByteArray := prog_9_method_6_code
def yX7_split : MethodName := ⟨RX7, "split", "([BI)V"⟩
abbrev cX7_add : ByteArray := prog_9_method_7_code
def yX7_add : MethodName := ⟨RX7, "add", "(III)V"⟩
abbrev cX7_takeWord : ByteArray := prog_9_method_8_code
def yX7_takeWord : MethodName := ⟨RX7, "takeWord", "([BII)I"⟩
abbrev cX7_wordKind : ByteArray := prog_9_method_9_code
def yX7_wordKind : MethodName := ⟨RX7, "wordKind", "(I)I"⟩
abbrev cX7_takeNumber : ByteArray := prog_9_method_10_code
def yX7_takeNumber : MethodName := ⟨RX7, "takeNumber", "([BII)I"⟩
abbrev cX7_takeSign : ByteArray := prog_9_method_11_code
def yX7_takeSign : MethodName := ⟨RX7, "takeSign", "([BII)I"⟩
abbrev cX7_signKind : ByteArray := prog_9_method_12_code
def yX7_signKind : MethodName := ⟨RX7, "signKind", "(I)I"⟩
def RX8 : String := "PassedClocks$Told"
def TX8 : u_T := fun k => match k with
  | 0 => ("PassedClocks$Told", "clocks", "I", false)
  | 1 => ("PassedClocks$Told", "people", "I", false)
  | 2 => ("PassedClocks$Told", "rounds", "I", false)
  | 3 => ("PassedClocks$Told", "guns", "I", false)
  | 4 => ("PassedClocks$Told", "lines", "I", false)
  | 5 => ("PassedClocks$Told", "name", "[I", true)
  | 6 => ("PassedClocks$Told", "first", "[I", true)
  | 7 => ("PassedClocks$Told", "gain", "[I", true)
  | 8 => ("PassedClocks$Told", "rough", "[I", true)
  | 9 => ("PassedClocks$Told", "custom", "[I", true)
  | 10 => ("PassedClocks$Told", "part", "[I", true)
  | 11 => ("PassedClocks$Told", "whole", "[I", true)
  | 12 => ("PassedClocks$Told", "roundPerson", "[I", true)
  | 13 => ("PassedClocks$Told", "roundClock", "[I", true)
  | 14 => ("PassedClocks$Told", "roundHour", "[I", true)
  | 15 => ("PassedClocks$Told", "gunClock", "[I", true)
  | 16 => ("PassedClocks$Told", "gunHour", "[I", true)
  | _ => ("PassedClocks$Told", "rules", "LPassedClocks$Rules;", true)
def tyX8 : Nat → FieldType := fun k => match k with
  | 0 => .int
  | 1 => .int
  | 2 => .int
  | 3 => .int
  | 4 => .int
  | 5 => .array .int
  | 6 => .array .int
  | 7 => .array .int
  | 8 => .array .int
  | 9 => .array .int
  | 10 => .array .int
  | 11 => .array .int
  | 12 => .array .int
  | 13 => .array .int
  | 14 => .array .int
  | 15 => .array .int
  | 16 => .array .int
  | _ => .object "PassedClocks$Rules"
abbrev wsX80 : List Cond := u_ws RX8 TX8 18
theorem nmX8 : ∀ a, a < 18 → ∀ b, b < 18 → a ≠ b → (TX8 a).2.1 ≠ (TX8 b).2.1 := by decide +kernel
theorem tyX8_ok : ∀ k, k < 18 → parseFieldDescriptor (TX8 k).2.2.1 = some (tyX8 k) := by decide +kernel
abbrev cX8_init : ByteArray := prog_10_method_1_code
def yX8_init : MethodName := ⟨RX8, "<init>", "()V"⟩
abbrev cX8_clear : ByteArray := prog_10_method_2_code
def yX8_clear : MethodName := ⟨RX8, "clear", "()V"⟩
abbrev cX8_things : ByteArray := prog_10_method_3_code
def yX8_things : MethodName := ⟨RX8, "things", "()I"⟩
abbrev cX8_hasClock : ByteArray := prog_10_method_4_code
def yX8_hasClock : MethodName := ⟨RX8, "hasClock", "(I)Z"⟩
abbrev cX8_hasPerson : ByteArray := prog_10_method_5_code
def yX8_hasPerson : MethodName := ⟨RX8, "hasPerson", "(I)Z"⟩
abbrev cX8_slotOf : ByteArray := prog_10_method_6_code
def yX8_slotOf : MethodName := ⟨RX8, "slotOf", "(I)I"⟩
abbrev cX8_isRough : ByteArray := prog_10_method_7_code
def yX8_isRough : MethodName := ⟨RX8, "isRough", "(I)Z"⟩
abbrev cX8_find : ByteArray := prog_10_method_8_code
def yX8_find : MethodName := ⟨RX8, "find", "(III)I"⟩
def RX9 : String := "PassedClocks$Ways"
def TX9 : u_T := fun k => match k with
  | 0 => ("PassedClocks$Ways", "slot", "I", false)
  | 1 => ("PassedClocks$Ways", "count", "I", false)
  | _ => ("PassedClocks$Ways", "seconds", "[I", true)
def tyX9 : Nat → FieldType := fun k => match k with
  | 0 => .int
  | 1 => .int
  | _ => .array .int
abbrev wsX90 : List Cond := u_ws RX9 TX9 3
theorem nmX9 : ∀ a, a < 3 → ∀ b, b < 3 → a ≠ b → (TX9 a).2.1 ≠ (TX9 b).2.1 := by decide +kernel
theorem tyX9_ok : ∀ k, k < 3 → parseFieldDescriptor (TX9 k).2.2.1 = some (tyX9 k) := by decide +kernel
abbrev cX9_init : ByteArray := prog_11_method_1_code
def yX9_init : MethodName := ⟨RX9, "<init>", "()V"⟩
abbrev cX9_forget : ByteArray := prog_11_method_2_code
def yX9_forget : MethodName := ⟨RX9, "forget", "()V"⟩
abbrev cX9_start : ByteArray := prog_11_method_3_code
def yX9_start : MethodName := ⟨RX9, "start", "(I)V"⟩
abbrev cX9_add : ByteArray := prog_11_method_4_code
def yX9_add : MethodName := ⟨RX9, "add", "(I)V"⟩
def RX10 : String := "PassedClocks"
def TX10 : u_T := fun k => match k with
  | 0 => ("PassedClocks", "reader", "LPassedClocks$Reader;", true)
  | 1 => ("PassedClocks", "told", "LPassedClocks$Told;", false)
  | 2 => ("PassedClocks", "spare", "LPassedClocks$Told;", false)
  | 3 => ("PassedClocks", "asTold", "LPassedClocks$Plan;", true)
  | 4 => ("PassedClocks", "tryPlan", "LPassedClocks$Plan;", true)
  | 5 => ("PassedClocks", "now", "LPassedClocks$Course;", true)
  | 6 => ("PassedClocks", "image", "LPassedClocks$Course;", true)
  | 7 => ("PassedClocks", "imageKept", "Z", false)
  | 8 => ("PassedClocks", "plainRun", "LPassedClocks$Course;", true)
  | 9 => ("PassedClocks", "tryRun", "LPassedClocks$Course;", true)
  | 10 => ("PassedClocks", "history", "LPassedClocks$History;", true)
  | 11 => ("PassedClocks", "readings", "LPassedClocks$Readings;", true)
  | 12 => ("PassedClocks", "ways", "LPassedClocks$Ways;", true)
  | 13 => ("PassedClocks", "endsFound", "LPassedClocks$Extremes;", true)
  | _ => ("PassedClocks", "purposeFound", "LPassedClocks$Extremes;", true)
def tyX10 : Nat → FieldType := fun k => match k with
  | 0 => .object "PassedClocks$Reader"
  | 1 => .object "PassedClocks$Told"
  | 2 => .object "PassedClocks$Told"
  | 3 => .object "PassedClocks$Plan"
  | 4 => .object "PassedClocks$Plan"
  | 5 => .object "PassedClocks$Course"
  | 6 => .object "PassedClocks$Course"
  | 7 => .boolean
  | 8 => .object "PassedClocks$Course"
  | 9 => .object "PassedClocks$Course"
  | 10 => .object "PassedClocks$History"
  | 11 => .object "PassedClocks$Readings"
  | 12 => .object "PassedClocks$Ways"
  | 13 => .object "PassedClocks$Extremes"
  | _ => .object "PassedClocks$Extremes"
abbrev wsX100 : List Cond := u_ws RX10 TX10 15
theorem nmX10 : ∀ a, a < 15 → ∀ b, b < 15 → a ≠ b → (TX10 a).2.1 ≠ (TX10 b).2.1 := by decide +kernel
theorem tyX10_ok : ∀ k, k < 15 → parseFieldDescriptor (TX10 k).2.2.1 = some (tyX10 k) := by decide +kernel
abbrev cX10_init : ByteArray := prog_1_method_1_code
def yX10_init : MethodName := ⟨RX10, "<init>", "()V"⟩
abbrev cX10_feed : ByteArray := prog_1_method_2_code
def yX10_feed : MethodName := ⟨RX10, "feed", "(IIIII)I"⟩
abbrev cX10_text : ByteArray := prog_1_method_3_code
def yX10_text : MethodName := ⟨RX10, "text", "(I)I"⟩
abbrev cX10_beginAnew : ByteArray := prog_1_method_4_code
def yX10_beginAnew : MethodName := ⟨RX10, "beginAnew", "()V"⟩
abbrev cX10_fault : ByteArray := prog_1_method_5_code
def yX10_fault : MethodName := ⟨RX10, "fault", "(I)I"⟩
abbrev cX10_named : ByteArray := prog_1_method_6_code
def yX10_named : MethodName := ⟨RX10, "named", "(II)I"⟩
abbrev cX10_look : ByteArray := prog_1_method_7_code
def yX10_look : MethodName := ⟨RX10, "look", "(II)I"⟩
abbrev cX10_clock : ByteArray := prog_1_method_8_code
def yX10_clock : MethodName := ⟨RX10, "clock", "(II)I"⟩
abbrev cX10_round : ByteArray := prog_1_method_9_code
def yX10_round : MethodName := ⟨RX10, "round", "(II)I"⟩
abbrev cX10_hours : ByteArray := prog_1_method_10_code
def yX10_hours : MethodName := ⟨RX10, "hours", "(I)I"⟩
abbrev cX10_off : ByteArray := prog_1_method_11_code
def yX10_off : MethodName := ⟨RX10, "off", "(I)I"⟩
abbrev cX10_now : ByteArray := prog_1_method_12_code
def yX10_now : MethodName := ⟨RX10, "now", "(II)I"⟩
abbrev cX10_was : ByteArray := prog_1_method_13_code
def yX10_was : MethodName := ⟨RX10, "was", "(II)I"⟩
abbrev cX10_wentBy : ByteArray := prog_1_method_14_code
def yX10_wentBy : MethodName := ⟨RX10, "wentBy", "(I)Z"⟩
abbrev cX10_spread : ByteArray := prog_1_method_15_code
def yX10_spread : MethodName := ⟨RX10, "spread", "(I)I"⟩
abbrev cX10_pass : ByteArray := prog_1_method_16_code
def yX10_pass : MethodName := ⟨RX10, "pass", "(II)I"⟩
abbrev cX10_canPass : ByteArray := prog_1_method_17_code
def yX10_canPass : MethodName := ⟨RX10, "canPass", "(II)Z"⟩
abbrev cX10_row : ByteArray := prog_1_method_18_code
def yX10_row : MethodName := ⟨RX10, "row", "(IJJI)I"⟩
abbrev cX10_rule : ByteArray := prog_1_method_19_code
def yX10_rule : MethodName := ⟨RX10, "rule", "(IIIII)J"⟩
abbrev cX10_isWithin : ByteArray := prog_1_method_20_code
def yX10_isWithin : MethodName := ⟨RX10, "isWithin", "(III)Z"⟩
abbrev cX10_moved : ByteArray := prog_1_method_21_code
def yX10_moved : MethodName := ⟨RX10, "moved", "(III)I"⟩
abbrev cX10_ends : ByteArray := prog_1_method_22_code
def yX10_ends : MethodName := ⟨RX10, "ends", "(II)I"⟩
abbrev cX10_findEnds : ByteArray := prog_1_method_23_code
def yX10_findEnds : MethodName := ⟨RX10, "findEnds", "()V"⟩
abbrev cX10_reading : ByteArray := prog_1_method_24_code
def yX10_reading : MethodName := ⟨RX10, "reading", "(IIII)I"⟩
abbrev cX10_known : ByteArray := prog_1_method_25_code
def yX10_known : MethodName := ⟨RX10, "known", "(I)Z"⟩
abbrev cX10_judged : ByteArray := prog_1_method_26_code
def yX10_judged : MethodName := ⟨RX10, "judged", "()I"⟩
abbrev cX10_wrong : ByteArray := prog_1_method_27_code
def yX10_wrong : MethodName := ⟨RX10, "wrong", "(I)I"⟩
abbrev cX10_way : ByteArray := prog_1_method_28_code
def yX10_way : MethodName := ⟨RX10, "way", "(II)I"⟩
abbrev cX10_findWays : ByteArray := prog_1_method_29_code
def yX10_findWays : MethodName := ⟨RX10, "findWays", "(I)V"⟩
abbrev cX10_tried : ByteArray := prog_1_method_30_code
def yX10_tried : MethodName := ⟨RX10, "tried", "(II)I"⟩
abbrev cX10_other : ByteArray := prog_1_method_31_code
def yX10_other : MethodName := ⟨RX10, "other", "(III)I"⟩
abbrev cX10_canTry : ByteArray := prog_1_method_32_code
def yX10_canTry : MethodName := ⟨RX10, "canTry", "(II)Z"⟩
abbrev cX10_runOtherwise : ByteArray := prog_1_method_33_code
def yX10_runOtherwise : MethodName := ⟨RX10, "runOtherwise", "(II)V"⟩
abbrev cX10_agree : ByteArray := prog_1_method_34_code
def yX10_agree : MethodName := ⟨RX10, "agree", "(I)I"⟩
abbrev cX10_often : ByteArray := prog_1_method_35_code
def yX10_often : MethodName := ⟨RX10, "often", "(II)I"⟩
abbrev cX10_isEnough : ByteArray := prog_1_method_36_code
def yX10_isEnough : MethodName := ⟨RX10, "isEnough", "(III)Z"⟩
abbrev cX10_fewest : ByteArray := prog_1_method_37_code
def yX10_fewest : MethodName := ⟨RX10, "fewest", "(II)I"⟩
abbrev cX10_holdAll : ByteArray := prog_1_method_38_code
def yX10_holdAll : MethodName := ⟨RX10, "holdAll", "(II)Z"⟩
abbrev cX10_purpose : ByteArray := prog_1_method_39_code
def yX10_purpose : MethodName := ⟨RX10, "purpose", "(IIIZI)I"⟩
abbrev cX10_findPurpose : ByteArray := prog_1_method_40_code
def yX10_findPurpose : MethodName := ⟨RX10, "findPurpose", "(II)V"⟩
abbrev cX10_waits : ByteArray := prog_1_method_41_code
def yX10_waits : MethodName := ⟨RX10, "waits", "(II)I"⟩
abbrev cX10_keep : ByteArray := prog_1_method_42_code
def yX10_keep : MethodName := ⟨RX10, "keep", "()I"⟩
abbrev cX10_back : ByteArray := prog_1_method_43_code
def yX10_back : MethodName := ⟨RX10, "back", "()I"⟩
abbrev cX10_count : ByteArray := prog_1_method_44_code
def yX10_count : MethodName := ⟨RX10, "count", "(I)I"⟩
def RX11 : String := "PassedClocksModel"
def TX11 : u_T := fun k => match k with
  | 0 => ("PassedClocksModel", "thrown", "I", false)
  | 1 => ("PassedClocksModel", "tape", "[I", true)
  | 2 => ("PassedClocksModel", "taped", "I", false)
  | 3 => ("PassedClocksModel", "number", "[I", true)
  | 4 => ("PassedClocksModel", "clockName", "[I", true)
  | 5 => ("PassedClocksModel", "clockOff", "[I", true)
  | 6 => ("PassedClocksModel", "clockGain", "[I", true)
  | 7 => ("PassedClocksModel", "clockRough", "[I", true)
  | 8 => ("PassedClocksModel", "personName", "[I", true)
  | 9 => ("PassedClocksModel", "personOff", "[I", true)
  | 10 => ("PassedClocksModel", "personGain", "[I", true)
  | 11 => ("PassedClocksModel", "personRough", "[I", true)
  | 12 => ("PassedClocksModel", "custom", "[I", true)
  | 13 => ("PassedClocksModel", "customA", "[I", true)
  | 14 => ("PassedClocksModel", "customB", "[I", true)
  | 15 => ("PassedClocksModel", "ruleFrom", "[I", true)
  | 16 => ("PassedClocksModel", "ruleTo", "[I", true)
  | 17 => ("PassedClocksModel", "roundOf", "[I", true)
  | 18 => ("PassedClocksModel", "roundAt", "[I", true)
  | 19 => ("PassedClocksModel", "roundHour", "[I", true)
  | 20 => ("PassedClocksModel", "gunAt", "[I", true)
  | 21 => ("PassedClocksModel", "gunHour", "[I", true)
  | 22 => ("PassedClocksModel", "knotSort", "[I", true)
  | 23 => ("PassedClocksModel", "knotValue", "[I", true)
  | 24 => ("PassedClocksModel", "lines", "I", false)
  | 25 => ("PassedClocksModel", "size", "I", false)
  | 26 => ("PassedClocksModel", "at", "I", false)
  | 27 => ("PassedClocksModel", "place", "I", false)
  | 28 => ("PassedClocksModel", "sort", "I", false)
  | 29 => ("PassedClocksModel", "value", "I", false)
  | 30 => ("PassedClocksModel", "fault", "I", false)
  | 31 => ("PassedClocksModel", "faultPlace", "I", false)
  | 32 => ("PassedClocksModel", "lastFault", "I", false)
  | 33 => ("PassedClocksModel", "lastPlace", "I", false)
  | 34 => ("PassedClocksModel", "open", "I", false)
  | 35 => ("PassedClocksModel", "counted", "I", false)
  | 36 => ("PassedClocksModel", "tryWhat", "I", false)
  | 37 => ("PassedClocksModel", "tryAt", "I", false)
  | 38 => ("PassedClocksModel", "rightSet", "I", false)
  | 39 => ("PassedClocksModel", "movedThing", "I", false)
  | 40 => ("PassedClocksModel", "movedBy", "I", false)
  | 41 => ("PassedClocksModel", "oftenClock", "I", false)
  | 42 => ("PassedClocksModel", "oftenBy", "I", false)
  | 43 => ("PassedClocksModel", "purposePerson", "I", false)
  | 44 => ("PassedClocksModel", "purposeClock", "I", false)
  | 45 => ("PassedClocksModel", "purposeHour", "I", false)
  | 46 => ("PassedClocksModel", "start", "[I", true)
  | 47 => ("PassedClocksModel", "off", "[I", true)
  | 48 => ("PassedClocksModel", "last", "[I", true)
  | 49 => ("PassedClocksModel", "passed", "[I", true)
  | 50 => ("PassedClocksModel", "kept", "[I", true)
  | 51 => ("PassedClocksModel", "keptMany", "[I", true)
  | 52 => ("PassedClocksModel", "next", "I", false)
  | 53 => ("PassedClocksModel", "passings", "I", false)
  | 54 => ("PassedClocksModel", "history", "[I", true)
  | 55 => ("PassedClocksModel", "names", "[J", true)
  | 56 => ("PassedClocksModel", "worked", "[J", true)
  | 57 => ("PassedClocksModel", "workedMany", "I", false)
  | 58 => ("PassedClocksModel", "readings", "I", false)
  | 59 => ("PassedClocksModel", "knownBy", "I", false)
  | 60 => ("PassedClocksModel", "readThing", "[I", true)
  | 61 => ("PassedClocksModel", "readHour", "[I", true)
  | 62 => ("PassedClocksModel", "readLow", "[I", true)
  | 63 => ("PassedClocksModel", "readHigh", "[I", true)
  | 64 => ("PassedClocksModel", "hasImage", "Z", false)
  | 65 => ("PassedClocksModel", "imageNext", "I", false)
  | 66 => ("PassedClocksModel", "imagePassings", "I", false)
  | 67 => ("PassedClocksModel", "imageOff", "[I", true)
  | 68 => ("PassedClocksModel", "imageLast", "[I", true)
  | 69 => ("PassedClocksModel", "imagePassed", "[I", true)
  | 70 => ("PassedClocksModel", "imageKept", "[I", true)
  | 71 => ("PassedClocksModel", "imageMany", "[I", true)
  | _ => ("PassedClocksModel", "imageHistory", "[I", true)
def tyX11 : Nat → FieldType := fun k => match k with
  | 0 => .int
  | 1 => .array .int
  | 2 => .int
  | 3 => .array .int
  | 4 => .array .int
  | 5 => .array .int
  | 6 => .array .int
  | 7 => .array .int
  | 8 => .array .int
  | 9 => .array .int
  | 10 => .array .int
  | 11 => .array .int
  | 12 => .array .int
  | 13 => .array .int
  | 14 => .array .int
  | 15 => .array .int
  | 16 => .array .int
  | 17 => .array .int
  | 18 => .array .int
  | 19 => .array .int
  | 20 => .array .int
  | 21 => .array .int
  | 22 => .array .int
  | 23 => .array .int
  | 24 => .int
  | 25 => .int
  | 26 => .int
  | 27 => .int
  | 28 => .int
  | 29 => .int
  | 30 => .int
  | 31 => .int
  | 32 => .int
  | 33 => .int
  | 34 => .int
  | 35 => .int
  | 36 => .int
  | 37 => .int
  | 38 => .int
  | 39 => .int
  | 40 => .int
  | 41 => .int
  | 42 => .int
  | 43 => .int
  | 44 => .int
  | 45 => .int
  | 46 => .array .int
  | 47 => .array .int
  | 48 => .array .int
  | 49 => .array .int
  | 50 => .array .int
  | 51 => .array .int
  | 52 => .int
  | 53 => .int
  | 54 => .array .int
  | 55 => .array .long
  | 56 => .array .long
  | 57 => .int
  | 58 => .int
  | 59 => .int
  | 60 => .array .int
  | 61 => .array .int
  | 62 => .array .int
  | 63 => .array .int
  | 64 => .boolean
  | 65 => .int
  | 66 => .int
  | 67 => .array .int
  | 68 => .array .int
  | 69 => .array .int
  | 70 => .array .int
  | 71 => .array .int
  | _ => .array .int
abbrev wsX110 : List Cond := u_ws RX11 TX11 73
theorem nmX11 : ∀ a, a < 73 → ∀ b, b < 73 → a ≠ b → (TX11 a).2.1 ≠ (TX11 b).2.1 := by decide +kernel
theorem tyX11_ok : ∀ k, k < 73 → parseFieldDescriptor (TX11 k).2.2.1 = some (tyX11 k) := by decide +kernel
abbrev cX11_init : ByteArray := prog_13_method_1_code
def yX11_init : MethodName := ⟨RX11, "<init>", "()V"⟩
abbrev cX11_feed : ByteArray := prog_13_method_3_code
def yX11_feed : MethodName := ⟨RX11, "feed", "(IIIII)I"⟩
abbrev cX11_here : ByteArray := prog_13_method_4_code
def yX11_here : MethodName := ⟨RX11, "here", "()I"⟩
abbrev cX11_isSmall : ByteArray := prog_13_method_5_code
def yX11_isSmall : MethodName := ⟨RX11, "isSmall", "(I)Z"⟩
abbrev cX11_isDigit : ByteArray := prog_13_method_6_code
def yX11_isDigit : MethodName := ⟨RX11, "isDigit", "(I)Z"⟩
abbrev cX11_token : ByteArray := prog_13_method_7_code
def yX11_token : MethodName := ⟨RX11, "token", "()V"⟩
abbrev cX11_sign : ByteArray := prog_13_method_8_code
def yX11_sign : MethodName := ⟨RX11, "sign", "(I)V"⟩
abbrev cX11_word : ByteArray := prog_13_method_9_code
def yX11_word : MethodName := ⟨RX11, "word", "()I"⟩
abbrev cX11_name : ByteArray := prog_13_method_10_code
def yX11_name : MethodName := ⟨RX11, "name", "()V"⟩
abbrev cX11_wrong0 : ByteArray := prog_13_method_11_code
def yX11_wrong0 : MethodName := ⟨RX11, "wrong0", "(I)V"⟩
abbrev cX11_isWord : ByteArray := prog_13_method_12_code
def yX11_isWord : MethodName := ⟨RX11, "isWord", "(I)Z"⟩
abbrev cX11_isSign : ByteArray := prog_13_method_13_code
def yX11_isSign : MethodName := ⟨RX11, "isSign", "(I)Z"⟩
abbrev cX11_goOn : ByteArray := prog_13_method_14_code
def yX11_goOn : MethodName := ⟨RX11, "goOn", "()V"⟩
abbrev cX11_numeral : ByteArray := prog_13_method_15_code
def yX11_numeral : MethodName := ⟨RX11, "numeral", "(II)I"⟩
abbrev cX11_signed : ByteArray := prog_13_method_16_code
def yX11_signed : MethodName := ⟨RX11, "signed", "(I)I"⟩
abbrev cX11_found : ByteArray := prog_13_method_17_code
def yX11_found : MethodName := ⟨RX11, "found", "([IIII)I"⟩
abbrev cX11_fresh : ByteArray := prog_13_method_18_code
def yX11_fresh : MethodName := ⟨RX11, "fresh", "([III)I"⟩
abbrev cX11_ahead : ByteArray := prog_13_method_19_code
def yX11_ahead : MethodName := ⟨RX11, "ahead", "([III)I"⟩
abbrev cX11_fresher : ByteArray := prog_13_method_20_code
def yX11_fresher : MethodName := ⟨RX11, "fresher", "(I)I"⟩
abbrev cX11_oneMore : ByteArray := prog_13_method_21_code
def yX11_oneMore : MethodName := ⟨RX11, "oneMore", "(I)V"⟩
abbrev cX11_line : ByteArray := prog_13_method_22_code
def yX11_line : MethodName := ⟨RX11, "line", "()V"⟩
abbrev cX11_personLine : ByteArray := prog_13_method_23_code
def yX11_personLine : MethodName := ⟨RX11, "personLine", "(I)V"⟩
abbrev cX11_more : ByteArray := prog_13_method_24_code
def yX11_more : MethodName := ⟨RX11, "more", "(IZ)V"⟩
abbrev cX11_puts : ByteArray := prog_13_method_25_code
def yX11_puts : MethodName := ⟨RX11, "puts", "(II)V"⟩
abbrev cX11_knot : ByteArray := prog_13_method_26_code
def yX11_knot : MethodName := ⟨RX11, "knot", "()V"⟩
abbrev cX11_expression : ByteArray := prog_13_method_27_code
def yX11_expression : MethodName := ⟨RX11, "expression", "()V"⟩
abbrev cX11_conjunction : ByteArray := prog_13_method_28_code
def yX11_conjunction : MethodName := ⟨RX11, "conjunction", "()V"⟩
abbrev cX11_negation : ByteArray := prog_13_method_29_code
def yX11_negation : MethodName := ⟨RX11, "negation", "()V"⟩
abbrev cX11_sum : ByteArray := prog_13_method_30_code
def yX11_sum : MethodName := ⟨RX11, "sum", "()V"⟩
abbrev cX11_product : ByteArray := prog_13_method_31_code
def yX11_product : MethodName := ⟨RX11, "product", "()V"⟩
abbrev cX11_primary : ByteArray := prog_13_method_32_code
def yX11_primary : MethodName := ⟨RX11, "primary", "()V"⟩
abbrev cX11_half : ByteArray := prog_13_method_33_code
def yX11_half : MethodName := ⟨RX11, "half", "([I)V"⟩
abbrev cX11_text : ByteArray := prog_13_method_34_code
def yX11_text : MethodName := ⟨RX11, "text", "(I)I"⟩
abbrev cX11_fault : ByteArray := prog_13_method_35_code
def yX11_fault : MethodName := ⟨RX11, "fault", "(I)I"⟩
abbrev cX11_named : ByteArray := prog_13_method_36_code
def yX11_named : MethodName := ⟨RX11, "named", "(II)I"⟩
abbrev cX11_isClock : ByteArray := prog_13_method_37_code
def yX11_isClock : MethodName := ⟨RX11, "isClock", "(I)Z"⟩
abbrev cX11_isPerson : ByteArray := prog_13_method_38_code
def yX11_isPerson : MethodName := ⟨RX11, "isPerson", "(I)Z"⟩
abbrev cX11_things : ByteArray := prog_13_method_39_code
def yX11_things : MethodName := ⟨RX11, "things", "()I"⟩
abbrev cX11_isThing : ByteArray := prog_13_method_40_code
def yX11_isThing : MethodName := ⟨RX11, "isThing", "(I)Z"⟩
abbrev cX11_look : ByteArray := prog_13_method_41_code
def yX11_look : MethodName := ⟨RX11, "look", "(II)I"⟩
abbrev cX11_clock : ByteArray := prog_13_method_42_code
def yX11_clock : MethodName := ⟨RX11, "clock", "(II)I"⟩
abbrev cX11_round : ByteArray := prog_13_method_43_code
def yX11_round : MethodName := ⟨RX11, "round", "(II)I"⟩
abbrev cX11_plain : ByteArray := prog_13_method_44_code
def yX11_plain : MethodName := ⟨RX11, "plain", "()V"⟩
abbrev cX11_starts : ByteArray := prog_13_method_45_code
def yX11_starts : MethodName := ⟨RX11, "starts", "()V"⟩
abbrev cX11_isRight : ByteArray := prog_13_method_46_code
def yX11_isRight : MethodName := ⟨RX11, "isRight", "(I)Z"⟩
abbrev cX11_gainOf : ByteArray := prog_13_method_47_code
def yX11_gainOf : MethodName := ⟨RX11, "gainOf", "(I)I"⟩
abbrev cX11_customOf : ByteArray := prog_13_method_48_code
def yX11_customOf : MethodName := ⟨RX11, "customOf", "(I)I"⟩
abbrev cX11_hasRule : ByteArray := prog_13_method_49_code
def yX11_hasRule : MethodName := ⟨RX11, "hasRule", "(I)Z"⟩
abbrev cX11_bound : ByteArray := prog_13_method_50_code
def yX11_bound : MethodName := ⟨RX11, "bound", "(J)I"⟩
abbrev cX11_begins : ByteArray := prog_13_method_51_code
def yX11_begins : MethodName := ⟨RX11, "begins", "(I)V"⟩
abbrev cX11_gains : ByteArray := prog_13_method_52_code
def yX11_gains : MethodName := ⟨RX11, "gains", "(II)V"⟩
abbrev cX11_passes : ByteArray := prog_13_method_53_code
def yX11_passes : MethodName := ⟨RX11, "passes", "(IIII)V"⟩
abbrev cX11_keeps : ByteArray := prog_13_method_54_code
def yX11_keeps : MethodName := ⟨RX11, "keeps", "(III)V"⟩
abbrev cX11_middleOf : ByteArray := prog_13_method_55_code
def yX11_middleOf : MethodName := ⟨RX11, "middleOf", "(I)I"⟩
abbrev cX11_is : ByteArray := prog_13_method_56_code
def yX11_is : MethodName := ⟨RX11, "is", "(Z)J"⟩
abbrev cX11_works : ByteArray := prog_13_method_57_code
def yX11_works : MethodName := ⟨RX11, "works", "(I)Z"⟩
abbrev cX11_ruled : ByteArray := prog_13_method_58_code
def yX11_ruled : MethodName := ⟨RX11, "ruled", "(IIIII)Z"⟩
abbrev cX11_does : ByteArray := prog_13_method_59_code
def yX11_does : MethodName := ⟨RX11, "does", "(IIIII)Z"⟩
abbrev cX11_rule : ByteArray := prog_13_method_60_code
def yX11_rule : MethodName := ⟨RX11, "rule", "(IIIII)J"⟩
abbrev cX11_isGun : ByteArray := prog_13_method_61_code
def yX11_isGun : MethodName := ⟨RX11, "isGun", "(II)Z"⟩
abbrev cX11_isBusy : ByteArray := prog_13_method_62_code
def yX11_isBusy : MethodName := ⟨RX11, "isBusy", "(I)Z"⟩
abbrev cX11_happens : ByteArray := prog_13_method_63_code
def yX11_happens : MethodName := ⟨RX11, "happens", "(II)V"⟩
abbrev cX11_runs : ByteArray := prog_13_method_64_code
def yX11_runs : MethodName := ⟨RX11, "runs", "(I)V"⟩
abbrev cX11_runsNow : ByteArray := prog_13_method_65_code
def yX11_runsNow : MethodName := ⟨RX11, "runsNow", "()V"⟩
abbrev cX11_spreadOf : ByteArray := prog_13_method_66_code
def yX11_spreadOf : MethodName := ⟨RX11, "spreadOf", "([II)I"⟩
abbrev cX11_writes : ByteArray := prog_13_method_67_code
def yX11_writes : MethodName := ⟨RX11, "writes", "()V"⟩
abbrev cX11_hours : ByteArray := prog_13_method_68_code
def yX11_hours : MethodName := ⟨RX11, "hours", "(I)I"⟩
abbrev cX11_off : ByteArray := prog_13_method_69_code
def yX11_off : MethodName := ⟨RX11, "off", "(I)I"⟩
abbrev cX11_now : ByteArray := prog_13_method_70_code
def yX11_now : MethodName := ⟨RX11, "now", "(II)I"⟩
abbrev cX11_isPast : ByteArray := prog_13_method_71_code
def yX11_isPast : MethodName := ⟨RX11, "isPast", "(I)Z"⟩
abbrev cX11_was : ByteArray := prog_13_method_72_code
def yX11_was : MethodName := ⟨RX11, "was", "(II)I"⟩
abbrev cX11_spread : ByteArray := prog_13_method_73_code
def yX11_spread : MethodName := ⟨RX11, "spread", "(I)I"⟩
abbrev cX11_pass : ByteArray := prog_13_method_74_code
def yX11_pass : MethodName := ⟨RX11, "pass", "(II)I"⟩
abbrev cX11_copies : ByteArray := prog_13_method_75_code
def yX11_copies : MethodName := ⟨RX11, "copies", "()V"⟩
abbrev cX11_row : ByteArray := prog_13_method_76_code
def yX11_row : MethodName := ⟨RX11, "row", "(IJJI)I"⟩
abbrev cX11_told : ByteArray := prog_13_method_77_code
def yX11_told : MethodName := ⟨RX11, "told", "(IJJ)I"⟩
abbrev cX11_isMove : ByteArray := prog_13_method_78_code
def yX11_isMove : MethodName := ⟨RX11, "isMove", "(I)Z"⟩
abbrev cX11_moved : ByteArray := prog_13_method_79_code
def yX11_moved : MethodName := ⟨RX11, "moved", "(III)I"⟩
abbrev cX11_roughOf : ByteArray := prog_13_method_80_code
def yX11_roughOf : MethodName := ⟨RX11, "roughOf", "(I)I"⟩
abbrev cX11_ends : ByteArray := prog_13_method_81_code
def yX11_ends : MethodName := ⟨RX11, "ends", "(II)I"⟩
abbrev cX11_reading : ByteArray := prog_13_method_82_code
def yX11_reading : MethodName := ⟨RX11, "reading", "(IIII)I"⟩
abbrev cX11_known : ByteArray := prog_13_method_83_code
def yX11_known : MethodName := ⟨RX11, "known", "(I)Z"⟩
abbrev cX11_knownMany : ByteArray := prog_13_method_84_code
def yX11_knownMany : MethodName := ⟨RX11, "knownMany", "()I"⟩
abbrev cX11_firstWrong : ByteArray := prog_13_method_85_code
def yX11_firstWrong : MethodName := ⟨RX11, "firstWrong", "()I"⟩
abbrev cX11_judged : ByteArray := prog_13_method_86_code
def yX11_judged : MethodName := ⟨RX11, "judged", "()I"⟩
abbrev cX11_wrong : ByteArray := prog_13_method_87_code
def yX11_wrong : MethodName := ⟨RX11, "wrong", "(I)I"⟩
abbrev cX11_way : ByteArray := prog_13_method_88_code
def yX11_way : MethodName := ⟨RX11, "way", "(II)I"⟩
abbrev cX11_tries : ByteArray := prog_13_method_89_code
def yX11_tries : MethodName := ⟨RX11, "tries", "(II)Z"⟩
abbrev cX11_tried : ByteArray := prog_13_method_90_code
def yX11_tried : MethodName := ⟨RX11, "tried", "(II)I"⟩
abbrev cX11_other : ByteArray := prog_13_method_91_code
def yX11_other : MethodName := ⟨RX11, "other", "(III)I"⟩
abbrev cX11_isBound : ByteArray := prog_13_method_92_code
def yX11_isBound : MethodName := ⟨RX11, "isBound", "(I)Z"⟩
abbrev cX11_agree : ByteArray := prog_13_method_93_code
def yX11_agree : MethodName := ⟨RX11, "agree", "(I)I"⟩
abbrev cX11_isNear : ByteArray := prog_13_method_94_code
def yX11_isNear : MethodName := ⟨RX11, "isNear", "(I)Z"⟩
abbrev cX11_often : ByteArray := prog_13_method_95_code
def yX11_often : MethodName := ⟨RX11, "often", "(II)I"⟩
abbrev cX11_bitsOf : ByteArray := prog_13_method_96_code
def yX11_bitsOf : MethodName := ⟨RX11, "bitsOf", "(I)I"⟩
abbrev cX11_fewest : ByteArray := prog_13_method_97_code
def yX11_fewest : MethodName := ⟨RX11, "fewest", "(II)I"⟩
abbrev cX11_purpose : ByteArray := prog_13_method_98_code
def yX11_purpose : MethodName := ⟨RX11, "purpose", "(IIIZI)I"⟩
abbrev cX11_waits : ByteArray := prog_13_method_99_code
def yX11_waits : MethodName := ⟨RX11, "waits", "(II)I"⟩
abbrev cX11_keep : ByteArray := prog_13_method_100_code
def yX11_keep : MethodName := ⟨RX11, "keep", "()I"⟩
abbrev cX11_back : ByteArray := prog_13_method_101_code
def yX11_back : MethodName := ⟨RX11, "back", "()I"⟩
abbrev cX11_count : ByteArray := prog_13_method_102_code
def yX11_count : MethodName := ⟨RX11, "count", "(I)I"⟩
def RJx145de : String := "java/io/Serializable"
def TJx145de : u_T := fun k => match k with
  | _ => ("", "", "", false)
def tyJx145de : Nat → FieldType := fun k => match k with
  | _ => .int
abbrev wsJx145de0 : List Cond := u_ws RJx145de TJx145de 0
theorem nmJx145de : ∀ a, a < 0 → ∀ b, b < 0 → a ≠ b → (TJx145de a).2.1 ≠ (TJx145de b).2.1 := by decide +kernel
theorem tyJx145de_ok : ∀ k, k < 0 → parseFieldDescriptor (TJx145de k).2.2.1 = some (tyJx145de k) := by decide +kernel
def RJx9f9b0 : String := "java/lang/CharSequence"
def TJx9f9b0 : u_T := fun k => match k with
  | _ => ("", "", "", false)
def tyJx9f9b0 : Nat → FieldType := fun k => match k with
  | _ => .int
abbrev wsJx9f9b00 : List Cond := u_ws RJx9f9b0 TJx9f9b0 0
theorem nmJx9f9b0 : ∀ a, a < 0 → ∀ b, b < 0 → a ≠ b → (TJx9f9b0 a).2.1 ≠ (TJx9f9b0 b).2.1 := by decide +kernel
theorem tyJx9f9b0_ok : ∀ k, k < 0 → parseFieldDescriptor (TJx9f9b0 k).2.2.1 = some (tyJx9f9b0 k) := by decide +kernel
def RJxb160c : String := "java/lang/Comparable"
def TJxb160c : u_T := fun k => match k with
  | _ => ("", "", "", false)
def tyJxb160c : Nat → FieldType := fun k => match k with
  | _ => .int
abbrev wsJxb160c0 : List Cond := u_ws RJxb160c TJxb160c 0
theorem nmJxb160c : ∀ a, a < 0 → ∀ b, b < 0 → a ≠ b → (TJxb160c a).2.1 ≠ (TJxb160c b).2.1 := by decide +kernel
theorem tyJxb160c_ok : ∀ k, k < 0 → parseFieldDescriptor (TJxb160c k).2.2.1 = some (tyJxb160c k) := by decide +kernel
def RJ6 : String := "java/lang/Integer"
def TJ6 : u_T := fun k => match k with
  | _ => ("", "", "", false)
def tyJ6 : Nat → FieldType := fun k => match k with
  | _ => .int
abbrev wsJ60 : List Cond := u_ws RJ6 TJ6 0
theorem nmJ6 : ∀ a, a < 0 → ∀ b, b < 0 → a ≠ b → (TJ6 a).2.1 ≠ (TJ6 b).2.1 := by decide +kernel
theorem tyJ6_ok : ∀ k, k < 0 → parseFieldDescriptor (TJ6 k).2.2.1 = some (tyJ6 k) := by decide +kernel
abbrev cJ6_bitCount_0f7a4 : ByteArray := prog_19_method_49_code
def yJ6_bitCount_0f7a4 : MethodName := ⟨RJ6, "bitCount", "(I)I"⟩
def RJ9 : String := "java/lang/Math"
def TJ9 : u_T := fun k => match k with
  | _ => ("", "", "", false)
def tyJ9 : Nat → FieldType := fun k => match k with
  | _ => .int
abbrev wsJ90 : List Cond := u_ws RJ9 TJ9 0
theorem nmJ9 : ∀ a, a < 0 → ∀ b, b < 0 → a ≠ b → (TJ9 a).2.1 ≠ (TJ9 b).2.1 := by decide +kernel
theorem tyJ9_ok : ∀ k, k < 0 → parseFieldDescriptor (TJ9 k).2.2.1 = some (tyJ9 k) := by decide +kernel
abbrev cJ9_floorDiv_7cf53 : ByteArray := prog_20_method_47_code
def yJ9_floorDiv_7cf53 : MethodName := ⟨RJ9, "floorDiv", "(II)I"⟩
abbrev cJ9_floorDiv_f86c9 : ByteArray := prog_20_method_49_code
def yJ9_floorDiv_f86c9 : MethodName := ⟨RJ9, "floorDiv", "(JJ)J"⟩
abbrev cJ9_abs_067f4 : ByteArray := prog_20_method_61_code
def yJ9_abs_067f4 : MethodName := ⟨RJ9, "abs", "(J)J"⟩
abbrev cJ9_max_7cf53 : ByteArray := prog_20_method_65_code
def yJ9_max_7cf53 : MethodName := ⟨RJ9, "max", "(II)I"⟩
abbrev cJ9_max_f86c9 : ByteArray := prog_20_method_66_code
def yJ9_max_f86c9 : MethodName := ⟨RJ9, "max", "(JJ)J"⟩
abbrev cJ9_min_7cf53 : ByteArray := prog_20_method_69_code
def yJ9_min_7cf53 : MethodName := ⟨RJ9, "min", "(II)I"⟩
abbrev cJ9_min_f86c9 : ByteArray := prog_20_method_70_code
def yJ9_min_f86c9 : MethodName := ⟨RJ9, "min", "(JJ)J"⟩
def RJ0 : String := "java/lang/String"
def TJ0 : u_T := fun k => match k with
  | _ => ("", "", "", false)
def tyJ0 : Nat → FieldType := fun k => match k with
  | _ => .int
abbrev wsJ00 : List Cond := u_ws RJ0 TJ0 0
theorem nmJ0 : ∀ a, a < 0 → ∀ b, b < 0 → a ≠ b → (TJ0 a).2.1 ≠ (TJ0 b).2.1 := by decide +kernel
theorem tyJ0_ok : ∀ k, k < 0 → parseFieldDescriptor (TJ0 k).2.2.1 = some (tyJ0 k) := by decide +kernel
abbrev cJ0_length_8abf5 : ByteArray := prog_22_method_54_code
def yJ0_length_8abf5 : MethodName := ⟨RJ0, "length", "()I"⟩
abbrev cJ0_charAt_5068e : ByteArray := prog_22_method_56_code
def yJ0_charAt_5068e : MethodName := ⟨RJ0, "charAt", "(I)C"⟩
abbrev cJ0_coder_7d493 : ByteArray := prog_22_method_152_code
def yJ0_coder_7d493 : MethodName := ⟨RJ0, "coder", "()B"⟩
abbrev cJ0_isLatin1_aae02 : ByteArray := prog_22_method_154_code
def yJ0_isLatin1_aae02 : MethodName := ⟨RJ0, "isLatin1", "()Z"⟩
abbrev cJ0_checkIndex_df160 : ByteArray := prog_22_method_155_code
def yJ0_checkIndex_df160 : MethodName := ⟨RJ0, "checkIndex", "(II)V"⟩
def RJ1 : String := "java/lang/StringLatin1"
def TJ1 : u_T := fun k => match k with
  | _ => ("", "", "", false)
def tyJ1 : Nat → FieldType := fun k => match k with
  | _ => .int
abbrev wsJ10 : List Cond := u_ws RJ1 TJ1 0
theorem nmJ1 : ∀ a, a < 0 → ∀ b, b < 0 → a ≠ b → (TJ1 a).2.1 ≠ (TJ1 b).2.1 := by decide +kernel
theorem tyJ1_ok : ∀ k, k < 0 → parseFieldDescriptor (TJ1 k).2.2.1 = some (tyJ1 k) := by decide +kernel
abbrev cJ1_charAt_3b067 : ByteArray := prog_23_method_2_code
def yJ1_charAt_3b067 : MethodName := ⟨RJ1, "charAt", "([BI)C"⟩
def RJ2 : String := "java/lang/StringUTF16"
def TJ2 : u_T := fun k => match k with
  | _ => ("", "", "", false)
def tyJ2 : Nat → FieldType := fun k => match k with
  | _ => .int
abbrev wsJ20 : List Cond := u_ws RJ2 TJ2 0
theorem nmJ2 : ∀ a, a < 0 → ∀ b, b < 0 → a ≠ b → (TJ2 a).2.1 ≠ (TJ2 b).2.1 := by decide +kernel
theorem tyJ2_ok : ∀ k, k < 0 → parseFieldDescriptor (TJ2 k).2.2.1 = some (tyJ2 k) := by decide +kernel
abbrev cJ2_getChar_3b067 : ByteArray := prog_24_method_5_code
def yJ2_getChar_3b067 : MethodName := ⟨RJ2, "getChar", "([BI)C"⟩
abbrev cJ2_length_9d52b : ByteArray := prog_24_method_6_code
def yJ2_length_9d52b : MethodName := ⟨RJ2, "length", "([B)I"⟩
abbrev cJ2_charAt_3b067 : ByteArray := prog_24_method_83_code
def yJ2_charAt_3b067 : MethodName := ⟨RJ2, "charAt", "([BI)C"⟩
abbrev cJ2_checkIndex_2214a : ByteArray := prog_24_method_91_code
def yJ2_checkIndex_2214a : MethodName := ⟨RJ2, "checkIndex", "(I[B)V"⟩
def RJ10 : String := "java/lang/System"
def TJ10 : u_T := fun k => match k with
  | _ => ("", "", "", false)
def tyJ10 : Nat → FieldType := fun k => match k with
  | _ => .int
abbrev wsJ100 : List Cond := u_ws RJ10 TJ10 0
theorem nmJ10 : ∀ a, a < 0 → ∀ b, b < 0 → a ≠ b → (TJ10 a).2.1 ≠ (TJ10 b).2.1 := by decide +kernel
theorem tyJ10_ok : ∀ k, k < 0 → parseFieldDescriptor (TJ10 k).2.2.1 = some (tyJ10 k) := by decide +kernel
def RJxfd54e : String := "java/lang/constant/Constable"
def TJxfd54e : u_T := fun k => match k with
  | _ => ("", "", "", false)
def tyJxfd54e : Nat → FieldType := fun k => match k with
  | _ => .int
abbrev wsJxfd54e0 : List Cond := u_ws RJxfd54e TJxfd54e 0
theorem nmJxfd54e : ∀ a, a < 0 → ∀ b, b < 0 → a ≠ b → (TJxfd54e a).2.1 ≠ (TJxfd54e b).2.1 := by decide +kernel
theorem tyJxfd54e_ok : ∀ k, k < 0 → parseFieldDescriptor (TJxfd54e k).2.2.1 = some (tyJxfd54e k) := by decide +kernel
def RJx3cf43 : String := "java/lang/constant/ConstantDesc"
def TJx3cf43 : u_T := fun k => match k with
  | _ => ("", "", "", false)
def tyJx3cf43 : Nat → FieldType := fun k => match k with
  | _ => .int
abbrev wsJx3cf430 : List Cond := u_ws RJx3cf43 TJx3cf43 0
theorem nmJx3cf43 : ∀ a, a < 0 → ∀ b, b < 0 → a ≠ b → (TJx3cf43 a).2.1 ≠ (TJx3cf43 b).2.1 := by decide +kernel
theorem tyJx3cf43_ok : ∀ k, k < 0 → parseFieldDescriptor (TJx3cf43 k).2.2.1 = some (tyJx3cf43 k) := by decide +kernel
def RJ7 : String := "java/util/Arrays"
def TJ7 : u_T := fun k => match k with
  | _ => ("", "", "", false)
def tyJ7 : Nat → FieldType := fun k => match k with
  | _ => .int
abbrev wsJ70 : List Cond := u_ws RJ7 TJ7 0
theorem nmJ7 : ∀ a, a < 0 → ∀ b, b < 0 → a ≠ b → (TJ7 a).2.1 ≠ (TJ7 b).2.1 := by decide +kernel
theorem tyJ7_ok : ∀ k, k < 0 → parseFieldDescriptor (TJ7 k).2.2.1 = some (tyJ7 k) := by decide +kernel
abbrev cJ7_fill_53178 : ByteArray := prog_29_method_103_code
def yJ7_fill_53178 : MethodName := ⟨RJ7, "fill", "([II)V"⟩
def RJ3 : String := "jdk/internal/util/Preconditions"
def TJ3 : u_T := fun k => match k with
  | _ => ("", "", "", false)
def tyJ3 : Nat → FieldType := fun k => match k with
  | _ => .int
abbrev wsJ30 : List Cond := u_ws RJ3 TJ3 0
theorem nmJ3 : ∀ a, a < 0 → ∀ b, b < 0 → a ≠ b → (TJ3 a).2.1 ≠ (TJ3 b).2.1 := by decide +kernel
theorem tyJ3_ok : ∀ k, k < 0 → parseFieldDescriptor (TJ3 k).2.2.1 = some (tyJ3 k) := by decide +kernel
abbrev cJ3_checkIndex_8e157 : ByteArray := prog_31_method_11_code
def yJ3_checkIndex_8e157 : MethodName := ⟨RJ3, "checkIndex", "(IILjava/util/function/BiFunction;)I"⟩
def RL : String := "PassedClocksLaw"
abbrev cL_look : ByteArray := method_3_code
def yL_look : MethodName := ⟨RL, "look", "(LPassedClocks;II[J)I"⟩
abbrev cL_law : ByteArray := code
def yL_law : MethodName := ⟨RL, "law", "([I)Z"⟩
abbrev vwCl : List vw_C := [(RX0, TX0, 14), (RX1, TX1, 7), (RX2, TX2, 2), (RX3, TX3, 9), (RX4, TX4, 8), (RX5, TX5, 7), (RX6, TX6, 7), (RX7, TX7, 5), (RX8, TX8, 18), (RX9, TX9, 3), (RX10, TX10, 15), (RX11, TX11, 73)]
def pw_T : List Cond := lw_tbl.filter goodWord
def pw_w (y : MethodName) (c : ByteArray) (n : Nat) (r : Option FieldType) : List Cond := Cond.code y c n r :: pw_T
theorem pw_in {w : Cond} (h : w ∈ lw_tbl) (g : goodWord w = true) : w ∈ pw_T := List.mem_filter.mpr ⟨h, g⟩
theorem tb_1 {w : Cond} (h : w ∈ tables_1_1) : w ∈ lw_tbl := List.mem_append_right _ (show w ∈ tables_1 from List.mem_append_left _ h)
theorem tb_2 {w : Cond} (h : w ∈ tables_1_2) : w ∈ lw_tbl := List.mem_append_right _ (show w ∈ tables_1 from List.mem_append_right _ (List.mem_append_left _ h))
theorem tb_3 {w : Cond} (h : w ∈ tables_1_3) : w ∈ lw_tbl := List.mem_append_right _ (show w ∈ tables_1 from List.mem_append_right _ (List.mem_append_right _ (List.mem_append_left _ h)))
theorem tb_4 {w : Cond} (h : w ∈ tables_1_4) : w ∈ lw_tbl := List.mem_append_right _ (show w ∈ tables_1 from List.mem_append_right _ (List.mem_append_right _ (List.mem_append_right _ (List.mem_append_left _ h))))
theorem tb_5 {w : Cond} (h : w ∈ tables_1_5) : w ∈ lw_tbl := List.mem_append_right _ (show w ∈ tables_1 from List.mem_append_right _ (List.mem_append_right _ (List.mem_append_right _ (List.mem_append_right _ (List.mem_append_left _ h)))))
theorem tb_6 {w : Cond} (h : w ∈ tables_1_6) : w ∈ lw_tbl := List.mem_append_right _ (show w ∈ tables_1 from List.mem_append_right _ (List.mem_append_right _ (List.mem_append_right _ (List.mem_append_right _ (List.mem_append_right _ (List.mem_append_left _ h))))))
theorem tb_7 {w : Cond} (h : w ∈ tables_1_7) : w ∈ lw_tbl := List.mem_append_right _ (show w ∈ tables_1 from List.mem_append_right _ (List.mem_append_right _ (List.mem_append_right _ (List.mem_append_right _ (List.mem_append_right _ (List.mem_append_right _ (List.mem_append_left _ h)))))))
theorem tb_8 {w : Cond} (h : w ∈ tables_1_8) : w ∈ lw_tbl := List.mem_append_right _ (show w ∈ tables_1 from List.mem_append_right _ (List.mem_append_right _ (List.mem_append_right _ (List.mem_append_right _ (List.mem_append_right _ (List.mem_append_right _ (List.mem_append_right _ (h))))))))
theorem tp_1 {w : Cond} (h : w ∈ k2_sels lw_privs_1) : w ∈ lw_tbl := by
  refine List.mem_append_left _ ?_
  obtain ⟨q, hq, rfl⟩ := List.mem_map.mp h
  have h := hq
  exact List.mem_map.mpr ⟨q, (show q ∈ lw_privs from List.mem_append_left _ h), rfl⟩
theorem tp_2 {w : Cond} (h : w ∈ k2_sels lw_privs_2) : w ∈ lw_tbl := by
  refine List.mem_append_left _ ?_
  obtain ⟨q, hq, rfl⟩ := List.mem_map.mp h
  have h := hq
  exact List.mem_map.mpr ⟨q, (show q ∈ lw_privs from List.mem_append_right _ (List.mem_append_left _ h)), rfl⟩
theorem tp_3 {w : Cond} (h : w ∈ k2_sels lw_privs_3) : w ∈ lw_tbl := by
  refine List.mem_append_left _ ?_
  obtain ⟨q, hq, rfl⟩ := List.mem_map.mp h
  have h := hq
  exact List.mem_map.mpr ⟨q, (show q ∈ lw_privs from List.mem_append_right _ (List.mem_append_right _ (List.mem_append_left _ h))), rfl⟩
theorem tp_4 {w : Cond} (h : w ∈ k2_sels lw_privs_4) : w ∈ lw_tbl := by
  refine List.mem_append_left _ ?_
  obtain ⟨q, hq, rfl⟩ := List.mem_map.mp h
  have h := hq
  exact List.mem_map.mpr ⟨q, (show q ∈ lw_privs from List.mem_append_right _ (List.mem_append_right _ (List.mem_append_right _ (List.mem_append_left _ h)))), rfl⟩
theorem tp_5 {w : Cond} (h : w ∈ k2_sels lw_privs_5) : w ∈ lw_tbl := by
  refine List.mem_append_left _ ?_
  obtain ⟨q, hq, rfl⟩ := List.mem_map.mp h
  have h := hq
  exact List.mem_map.mpr ⟨q, (show q ∈ lw_privs from List.mem_append_right _ (List.mem_append_right _ (List.mem_append_right _ (List.mem_append_right _ (List.mem_append_left _ h))))), rfl⟩
theorem tp_6 {w : Cond} (h : w ∈ k2_sels lw_privs_6) : w ∈ lw_tbl := by
  refine List.mem_append_left _ ?_
  obtain ⟨q, hq, rfl⟩ := List.mem_map.mp h
  have h := hq
  exact List.mem_map.mpr ⟨q, (show q ∈ lw_privs from List.mem_append_right _ (List.mem_append_right _ (List.mem_append_right _ (List.mem_append_right _ (List.mem_append_right _ (List.mem_append_left _ h)))))), rfl⟩
theorem tp_7 {w : Cond} (h : w ∈ k2_sels lw_privs_7) : w ∈ lw_tbl := by
  refine List.mem_append_left _ ?_
  obtain ⟨q, hq, rfl⟩ := List.mem_map.mp h
  have h := hq
  exact List.mem_map.mpr ⟨q, (show q ∈ lw_privs from List.mem_append_right _ (List.mem_append_right _ (List.mem_append_right _ (List.mem_append_right _ (List.mem_append_right _ (List.mem_append_right _ (h))))))), rfl⟩
theorem pw_good {w : Cond} (h : w ∈ pw_T) : w ∈ pw_T ∧ ((w.onTables && w.keeps) = true ∨ ∃ ty, w = .arrayClass ty) := ⟨h, good_of_word (List.mem_filter.mp h).2⟩
theorem gw {y : MethodName} {c : ByteArray} {n : Nat} {r : Option FieldType} (h : Cond.code y c n r ∈ pw_T) : GoodIn pw_T (pw_w y c n r) := fun w hw => (List.mem_cons.mp hw).elim (fun e => by rw [e]; exact pw_good h) (fun q => pw_good q)
theorem gwV {own C : String} {idx : Nat} {y : MethodName} {c : ByteArray} {n : Nat} {r : Option FieldType} (h1 : Cond.methodLink own idx y ∈ pw_T) (h2 : Cond.instanceMethod y ∈ pw_T) (h3 : Cond.selects C y y ∈ pw_T) (h4 : Cond.initialized C ∈ pw_T) (h5 : Cond.code y c n r ∈ pw_T) : GoodIn pw_T (wsV own idx C y (pw_w y c n r)) := fun w hw => (List.mem_append.mp hw).elim (fun q => by
  simp only [List.mem_cons, List.not_mem_nil, or_false] at q
  rcases q with rfl | rfl | rfl | rfl
  · exact pw_good h1
  · exact pw_good h2
  · exact pw_good h3
  · exact pw_good h4) (fun q => gw h5 w q)
theorem gwS {own : String} {idx : Nat} {y : MethodName} {c : ByteArray} {n : Nat} {r : Option FieldType} (h1 : Cond.methodLink own idx y ∈ pw_T) (h2 : Cond.static y ∈ pw_T) (h4 : Cond.initialized y.cls ∈ pw_T) (h5 : Cond.code y c n r ∈ pw_T) : GoodIn pw_T (va_wsS own idx y (pw_w y c n r)) := fun w hw => (List.mem_append.mp hw).elim (fun q => by
  simp only [List.mem_cons, List.not_mem_nil, or_false] at q
  rcases q with rfl | rfl | rfl
  · exact pw_good h1
  · exact pw_good h2
  · exact pw_good h4) (fun q => gw h5 w q)
theorem il_lt {x y : Int32} (h : x < y) : x.toInt < y.toInt := Int32.lt_iff_toInt_lt.mp h
theorem il_nlt {x y : Int32} (h : ¬ x < y) : y.toInt ≤ x.toInt := Int.not_lt.mp (fun q => h (Int32.lt_iff_toInt_lt.mpr q))
theorem il_le {x y : Int32} (h : x ≤ y) : x.toInt ≤ y.toInt := Int32.le_iff_toInt_le.mp h
theorem il_nle {x y : Int32} (h : ¬ x ≤ y) : y.toInt < x.toInt := Int.not_le.mp (fun q => h (Int32.le_iff_toInt_le.mpr q))
theorem il_eq {x y : Int32} (h : x = y) : x.toInt = y.toInt := by rw [h]
theorem il_ne {x y : Int32} (h : ¬ x = y) : x.toInt ≠ y.toInt := fun q => h (Int32.toInt_inj.mp q)
theorem upd_zero {f : Nat → Int32} {k : Nat} (h : ∀ j, f j = 0) : ∀ j, upd f k 0 j = 0 := by
  intro j
  unfold upd
  split
  · rfl
  · exact h j
