def RX0 : String := "SpanPainter$AutoPlanner"
def TX0 : u_T := fun k => match k with
  | _ => ("SpanPainter$AutoPlanner", "candidates", "LSpanPainter$Ranking;", true)
def tyX0 : Nat → FieldType := fun k => match k with
  | _ => .object "SpanPainter$Ranking"
abbrev wsX00 : List Cond := u_ws RX0 TX0 1
theorem nmX0 : ∀ a, a < 1 → ∀ b, b < 1 → a ≠ b → (TX0 a).2.1 ≠ (TX0 b).2.1 := by decide +kernel
theorem tyX0_ok : ∀ k, k < 1 → parseFieldDescriptor (TX0 k).2.2.1 = some (tyX0 k) := by decide +kernel
abbrev cX0_init : ByteArray := prog_2_method_1_code
def yX0_init : MethodName := ⟨RX0, "<init>", "()V"⟩
def RX1 : String := "SpanPainter$Bridge"
def TX1 : u_T := fun k => match k with
  | 0 => ("SpanPainter$Bridge", "years", "I", false)
  | 1 => ("SpanPainter$Bridge", "shut", "I", false)
  | 2 => ("SpanPainter$Bridge", "guard", "I", false)
  | 3 => ("SpanPainter$Bridge", "laneCount", "I", false)
  | 4 => ("SpanPainter$Bridge", "spanCount", "I", false)
  | 5 => ("SpanPainter$Bridge", "gangCount", "I", false)
  | 6 => ("SpanPainter$Bridge", "traffic", "[I", true)
  | 7 => ("SpanPainter$Bridge", "laneOf", "[I", true)
  | 8 => ("SpanPainter$Bridge", "area", "[I", true)
  | 9 => ("SpanPainter$Bridge", "rust", "[I", true)
  | 10 => ("SpanPainter$Bridge", "rate", "[I", true)
  | 11 => ("SpanPainter$Bridge", "limit", "[I", true)
  | 12 => ("SpanPainter$Bridge", "speed", "[I", true)
  | 13 => ("SpanPainter$Bridge", "wage", "[I", true)
  | 14 => ("SpanPainter$Bridge", "days", "[I", true)
  | _ => ("SpanPainter$Bridge", "closed", "[I", true)
def tyX1 : Nat → FieldType := fun k => match k with
  | 0 => .int
  | 1 => .int
  | 2 => .int
  | 3 => .int
  | 4 => .int
  | 5 => .int
  | 6 => .array .int
  | 7 => .array .int
  | 8 => .array .int
  | 9 => .array .int
  | 10 => .array .int
  | 11 => .array .int
  | 12 => .array .int
  | 13 => .array .int
  | 14 => .array .int
  | _ => .array .int
abbrev wsX10 : List Cond := u_ws RX1 TX1 16
theorem nmX1 : ∀ a, a < 16 → ∀ b, b < 16 → a ≠ b → (TX1 a).2.1 ≠ (TX1 b).2.1 := by decide +kernel
theorem tyX1_ok : ∀ k, k < 16 → parseFieldDescriptor (TX1 k).2.2.1 = some (tyX1 k) := by decide +kernel
abbrev cX1_init : ByteArray := prog_3_method_1_code
def yX1_init : MethodName := ⟨RX1, "<init>", "()V"⟩
abbrev cX1_reset : ByteArray := prog_3_method_2_code
def yX1_reset : MethodName := ⟨RX1, "reset", "()V"⟩
abbrev cX1_saveTo : ByteArray := prog_3_method_4_code
def yX1_saveTo : MethodName := ⟨RX1, "saveTo", "([I)V"⟩
abbrev cX1_restoreFrom : ByteArray := prog_3_method_5_code
def yX1_restoreFrom : MethodName := ⟨RX1, "restoreFrom", "([I)V"⟩
abbrev cX1_addLane : ByteArray := prog_3_method_6_code
def yX1_addLane : MethodName := ⟨RX1, "addLane", "(I)V"⟩
abbrev cX1_addSpan : ByteArray := prog_3_method_7_code
def yX1_addSpan : MethodName := ⟨RX1, "addSpan", "(IIIII)V"⟩
abbrev cX1_addGang : ByteArray := prog_3_method_8_code
def yX1_addGang : MethodName := ⟨RX1, "addGang", "(II)V"⟩
abbrev cX1_isClosed : ByteArray := prog_3_method_9_code
def yX1_isClosed : MethodName := ⟨RX1, "isClosed", "(II)Z"⟩
abbrev cX1_gangCapacity : ByteArray := prog_3_method_10_code
def yX1_gangCapacity : MethodName := ⟨RX1, "gangCapacity", "(II)I"⟩
def RX2 : String := "SpanPainter$History"
def TX2 : u_T := fun k => match k with
  | 0 => ("SpanPainter$History", "rows", "[[I", true)
  | 1 => ("SpanPainter$History", "newest", "I", false)
  | _ => ("SpanPainter$History", "size", "I", false)
def tyX2 : Nat → FieldType := fun k => match k with
  | 0 => .array (.array .int)
  | 1 => .int
  | _ => .int
abbrev wsX20 : List Cond := u_ws RX2 TX2 3
theorem nmX2 : ∀ a, a < 3 → ∀ b, b < 3 → a ≠ b → (TX2 a).2.1 ≠ (TX2 b).2.1 := by decide +kernel
theorem tyX2_ok : ∀ k, k < 3 → parseFieldDescriptor (TX2 k).2.2.1 = some (tyX2 k) := by decide +kernel
abbrev cX2_init : ByteArray := prog_4_method_1_code
def yX2_init : MethodName := ⟨RX2, "<init>", "()V"⟩
abbrev cX2_clear : ByteArray := prog_4_method_2_code
def yX2_clear : MethodName := ⟨RX2, "clear", "()V"⟩
abbrev cX2_size : ByteArray := prog_4_method_3_code
def yX2_size : MethodName := ⟨RX2, "size", "()I"⟩
abbrev cX2_isEmpty : ByteArray := prog_4_method_4_code
def yX2_isEmpty : MethodName := ⟨RX2, "isEmpty", "()Z"⟩
abbrev cX2_keep : ByteArray := prog_4_method_5_code
def yX2_keep : MethodName := ⟨RX2, "keep", "(LSpanPainter$Bridge;LSpanPainter$Plan;)V"⟩
abbrev cX2_takeBack : ByteArray := prog_4_method_6_code
def yX2_takeBack : MethodName := ⟨RX2, "takeBack", "(LSpanPainter$Bridge;LSpanPainter$Plan;)V"⟩
def RX3 : String := "SpanPainter$Names"
def TX3 : u_T := fun k => match k with
  | 0 => ("SpanPainter$Names", "words", "[J", true)
  | 1 => ("SpanPainter$Names", "sorts", "[I", true)
  | 2 => ("SpanPainter$Names", "numbers", "[I", true)
  | _ => ("SpanPainter$Names", "size", "I", false)
def tyX3 : Nat → FieldType := fun k => match k with
  | 0 => .array .long
  | 1 => .array .int
  | 2 => .array .int
  | _ => .int
abbrev wsX30 : List Cond := u_ws RX3 TX3 4
theorem nmX3 : ∀ a, a < 4 → ∀ b, b < 4 → a ≠ b → (TX3 a).2.1 ≠ (TX3 b).2.1 := by decide +kernel
theorem tyX3_ok : ∀ k, k < 4 → parseFieldDescriptor (TX3 k).2.2.1 = some (tyX3 k) := by decide +kernel
abbrev cX3_init : ByteArray := prog_5_method_1_code
def yX3_init : MethodName := ⟨RX3, "<init>", "()V"⟩
abbrev cX3_clear : ByteArray := prog_5_method_2_code
def yX3_clear : MethodName := ⟨RX3, "clear", "()V"⟩
abbrev cX3_add : ByteArray := prog_5_method_3_code
def yX3_add : MethodName := ⟨RX3, "add", "(JII)V"⟩
abbrev cX3_isDeclared : ByteArray := prog_5_method_4_code
def yX3_isDeclared : MethodName := ⟨RX3, "isDeclared", "(J)Z"⟩
abbrev cX3_numberOf : ByteArray := prog_5_method_5_code
def yX3_numberOf : MethodName := ⟨RX3, "numberOf", "(JI)I"⟩
def RX4 : String := "SpanPainter$Output"
def TX4 : u_T := fun k => match k with
  | 0 => ("SpanPainter$Output", "bytes", "[B", true)
  | _ => ("SpanPainter$Output", "size", "I", false)
def tyX4 : Nat → FieldType := fun k => match k with
  | 0 => .array .byte
  | _ => .int
abbrev wsX40 : List Cond := u_ws RX4 TX4 2
theorem nmX4 : ∀ a, a < 2 → ∀ b, b < 2 → a ≠ b → (TX4 a).2.1 ≠ (TX4 b).2.1 := by decide +kernel
theorem tyX4_ok : ∀ k, k < 2 → parseFieldDescriptor (TX4 k).2.2.1 = some (tyX4 k) := by decide +kernel
abbrev cX4_init : ByteArray := prog_6_method_1_code
def yX4_init : MethodName := ⟨RX4, "<init>", "()V"⟩
def RX5 : String := "SpanPainter$Parser"
def TX5 : u_T := fun k => match k with
  | 0 => ("SpanPainter$Parser", "tokens", "LSpanPainter$Tokens;", true)
  | 1 => ("SpanPainter$Parser", "names", "LSpanPainter$Names;", true)
  | 2 => ("SpanPainter$Parser", "bridge", "LSpanPainter$Bridge;", false)
  | 3 => ("SpanPainter$Parser", "plan", "LSpanPainter$Plan;", false)
  | 4 => ("SpanPainter$Parser", "failure", "I", false)
  | _ => ("SpanPainter$Parser", "failedAt", "I", false)
def tyX5 : Nat → FieldType := fun k => match k with
  | 0 => .object "SpanPainter$Tokens"
  | 1 => .object "SpanPainter$Names"
  | 2 => .object "SpanPainter$Bridge"
  | 3 => .object "SpanPainter$Plan"
  | 4 => .int
  | _ => .int
abbrev wsX50 : List Cond := u_ws RX5 TX5 6
theorem nmX5 : ∀ a, a < 6 → ∀ b, b < 6 → a ≠ b → (TX5 a).2.1 ≠ (TX5 b).2.1 := by decide +kernel
theorem tyX5_ok : ∀ k, k < 6 → parseFieldDescriptor (TX5 k).2.2.1 = some (tyX5 k) := by decide +kernel
abbrev cX5_init : ByteArray := prog_7_method_1_code
def yX5_init : MethodName := ⟨RX5, "<init>", "(LSpanPainter$Text;LSpanPainter$Bridge;LSpanPainter$Plan;)V"⟩
abbrev cX5_failureKind : ByteArray := prog_7_method_2_code
def yX5_failureKind : MethodName := ⟨RX5, "failureKind", "()I"⟩
abbrev cX5_failurePosition : ByteArray := prog_7_method_3_code
def yX5_failurePosition : MethodName := ⟨RX5, "failurePosition", "()I"⟩
abbrev cX5_read : ByteArray := prog_7_method_4_code
def yX5_read : MethodName := ⟨RX5, "read", "(ILSpanPainter$Bridge;LSpanPainter$Plan;)Z"⟩
abbrev cX5_fail : ByteArray := prog_7_method_5_code
def yX5_fail : MethodName := ⟨RX5, "fail", "(I)Z"⟩
abbrev cX5_readStatement : ByteArray := prog_7_method_6_code
def yX5_readStatement : MethodName := ⟨RX5, "readStatement", "(Z)Z"⟩
abbrev cX5_readBridge : ByteArray := prog_7_method_7_code
def yX5_readBridge : MethodName := ⟨RX5, "readBridge", "()Z"⟩
abbrev cX5_readLane : ByteArray := prog_7_method_8_code
def yX5_readLane : MethodName := ⟨RX5, "readLane", "()Z"⟩
abbrev cX5_readSpan : ByteArray := prog_7_method_9_code
def yX5_readSpan : MethodName := ⟨RX5, "readSpan", "()Z"⟩
abbrev cX5_readGang : ByteArray := prog_7_method_10_code
def yX5_readGang : MethodName := ⟨RX5, "readGang", "()Z"⟩
abbrev cX5_readWeather : ByteArray := prog_7_method_11_code
def yX5_readWeather : MethodName := ⟨RX5, "readWeather", "()Z"⟩
abbrev cX5_readClosed : ByteArray := prog_7_method_12_code
def yX5_readClosed : MethodName := ⟨RX5, "readClosed", "()Z"⟩
abbrev cX5_readPainting : ByteArray := prog_7_method_13_code
def yX5_readPainting : MethodName := ⟨RX5, "readPainting", "()Z"⟩
abbrev cX5_semicolon : ByteArray := prog_7_method_14_code
def yX5_semicolon : MethodName := ⟨RX5, "semicolon", "()Z"⟩
abbrev cX5_number : ByteArray := prog_7_method_15_code
def yX5_number : MethodName := ⟨RX5, "number", "(II)I"⟩
abbrev cX5_newName : ByteArray := prog_7_method_16_code
def yX5_newName : MethodName := ⟨RX5, "newName", "()J"⟩
abbrev cX5_knownName : ByteArray := prog_7_method_17_code
def yX5_knownName : MethodName := ⟨RX5, "knownName", "(I)I"⟩
abbrev cX5_laneOrNone : ByteArray := prog_7_method_18_code
def yX5_laneOrNone : MethodName := ⟨RX5, "laneOrNone", "()I"⟩
abbrev cX5_thisName : ByteArray := prog_7_method_19_code
def yX5_thisName : MethodName := ⟨RX5, "thisName", "(I)I"⟩
abbrev cX5_failOnToken : ByteArray := prog_7_method_20_code
def yX5_failOnToken : MethodName := ⟨RX5, "failOnToken", "()Z"⟩
abbrev cX5_isReserved : ByteArray := prog_7_method_21_code
def yX5_isReserved : MethodName := ⟨RX5, "isReserved", "(J)Z"⟩
def RX6 : String := "SpanPainter$Plan"
def TX6 : u_T := fun k => match k with
  | 0 => ("SpanPainter$Plan", "bridge", "LSpanPainter$Bridge;", false)
  | 1 => ("SpanPainter$Plan", "gangs", "[I", true)
  | 2 => ("SpanPainter$Plan", "rusts", "[I", true)
  | _ => ("SpanPainter$Plan", "guards", "[I", true)
def tyX6 : Nat → FieldType := fun k => match k with
  | 0 => .object "SpanPainter$Bridge"
  | 1 => .array .int
  | 2 => .array .int
  | _ => .array .int
abbrev wsX60 : List Cond := u_ws RX6 TX6 4
theorem nmX6 : ∀ a, a < 4 → ∀ b, b < 4 → a ≠ b → (TX6 a).2.1 ≠ (TX6 b).2.1 := by decide +kernel
theorem tyX6_ok : ∀ k, k < 4 → parseFieldDescriptor (TX6 k).2.2.1 = some (tyX6 k) := by decide +kernel
abbrev cX6_init : ByteArray := prog_8_method_1_code
def yX6_init : MethodName := ⟨RX6, "<init>", "(LSpanPainter$Bridge;)V"⟩
abbrev cX6_start : ByteArray := prog_8_method_2_code
def yX6_start : MethodName := ⟨RX6, "start", "(LSpanPainter$Bridge;)V"⟩
abbrev cX6_put : ByteArray := prog_8_method_3_code
def yX6_put : MethodName := ⟨RX6, "put", "(III)V"⟩
abbrev cX6_painter : ByteArray := prog_8_method_4_code
def yX6_painter : MethodName := ⟨RX6, "painter", "(II)I"⟩
abbrev cX6_isPainted : ByteArray := prog_8_method_5_code
def yX6_isPainted : MethodName := ⟨RX6, "isPainted", "(II)Z"⟩
abbrev cX6_countPaintings : ByteArray := prog_8_method_7_code
def yX6_countPaintings : MethodName := ⟨RX6, "countPaintings", "()I"⟩
abbrev cX6_saveTo : ByteArray := prog_8_method_8_code
def yX6_saveTo : MethodName := ⟨RX6, "saveTo", "([I)V"⟩
abbrev cX6_restoreFrom : ByteArray := prog_8_method_9_code
def yX6_restoreFrom : MethodName := ⟨RX6, "restoreFrom", "([I)V"⟩
abbrev cX6_followAll : ByteArray := prog_8_method_10_code
def yX6_followAll : MethodName := ⟨RX6, "followAll", "()V"⟩
abbrev cX6_follow : ByteArray := prog_8_method_11_code
def yX6_follow : MethodName := ⟨RX6, "follow", "(I)V"⟩
abbrev cX6_rustAtStart : ByteArray := prog_8_method_12_code
def yX6_rustAtStart : MethodName := ⟨RX6, "rustAtStart", "(II)I"⟩
abbrev cX6_rustAtEnd : ByteArray := prog_8_method_13_code
def yX6_rustAtEnd : MethodName := ⟨RX6, "rustAtEnd", "(II)I"⟩
abbrev cX6_guardAtStart : ByteArray := prog_8_method_14_code
def yX6_guardAtStart : MethodName := ⟨RX6, "guardAtStart", "(II)I"⟩
abbrev cX6_isPast : ByteArray := prog_8_method_15_code
def yX6_isPast : MethodName := ⟨RX6, "isPast", "(II)Z"⟩
abbrev cX6_firstPast : ByteArray := prog_8_method_16_code
def yX6_firstPast : MethodName := ⟨RX6, "firstPast", "(I)I"⟩
abbrev cX6_countPast : ByteArray := prog_8_method_17_code
def yX6_countPast : MethodName := ⟨RX6, "countPast", "()I"⟩
abbrev cX6_spanEffort : ByteArray := prog_8_method_18_code
def yX6_spanEffort : MethodName := ⟨RX6, "spanEffort", "(II)I"⟩
abbrev cX6_gangLoad : ByteArray := prog_8_method_19_code
def yX6_gangLoad : MethodName := ⟨RX6, "gangLoad", "(II)I"⟩
abbrev cX6_shutLanes : ByteArray := prog_8_method_24_code
def yX6_shutLanes : MethodName := ⟨RX6, "shutLanes", "(I)I"⟩
abbrev cX6_reasonAgainst : ByteArray := prog_8_method_29_code
def yX6_reasonAgainst : MethodName := ⟨RX6, "reasonAgainst", "(III)I"⟩
def RX7 : String := "SpanPainter$Ranking"
def TX7 : u_T := fun k => match k with
  | 0 => ("SpanPainter$Ranking", "keys", "[I", true)
  | _ => ("SpanPainter$Ranking", "size", "I", false)
def tyX7 : Nat → FieldType := fun k => match k with
  | 0 => .array .int
  | _ => .int
abbrev wsX70 : List Cond := u_ws RX7 TX7 2
theorem nmX7 : ∀ a, a < 2 → ∀ b, b < 2 → a ≠ b → (TX7 a).2.1 ≠ (TX7 b).2.1 := by decide +kernel
theorem tyX7_ok : ∀ k, k < 2 → parseFieldDescriptor (TX7 k).2.2.1 = some (tyX7 k) := by decide +kernel
abbrev cX7_init : ByteArray := prog_9_method_1_code
def yX7_init : MethodName := ⟨RX7, "<init>", "()V"⟩
def RX8 : String := "SpanPainter$SafeSearch"
def TX8 : u_T := fun k => match k with
  | 0 => ("SpanPainter$SafeSearch", "endangered", "LSpanPainter$Ranking;", true)
  | _ => ("SpanPainter$SafeSearch", "tries", "I", false)
def tyX8 : Nat → FieldType := fun k => match k with
  | 0 => .object "SpanPainter$Ranking"
  | _ => .int
abbrev wsX80 : List Cond := u_ws RX8 TX8 2
theorem nmX8 : ∀ a, a < 2 → ∀ b, b < 2 → a ≠ b → (TX8 a).2.1 ≠ (TX8 b).2.1 := by decide +kernel
theorem tyX8_ok : ∀ k, k < 2 → parseFieldDescriptor (TX8 k).2.2.1 = some (tyX8 k) := by decide +kernel
abbrev cX8_init : ByteArray := prog_10_method_1_code
def yX8_init : MethodName := ⟨RX8, "<init>", "()V"⟩
def RX9 : String := "SpanPainter$Text"
def TX9 : u_T := fun k => match k with
  | 0 => ("SpanPainter$Text", "bytes", "[B", true)
  | _ => ("SpanPainter$Text", "size", "I", false)
def tyX9 : Nat → FieldType := fun k => match k with
  | 0 => .array .byte
  | _ => .int
abbrev wsX90 : List Cond := u_ws RX9 TX9 2
theorem nmX9 : ∀ a, a < 2 → ∀ b, b < 2 → a ≠ b → (TX9 a).2.1 ≠ (TX9 b).2.1 := by decide +kernel
theorem tyX9_ok : ∀ k, k < 2 → parseFieldDescriptor (TX9 k).2.2.1 = some (tyX9 k) := by decide +kernel
abbrev cX9_init : ByteArray := prog_11_method_1_code
def yX9_init : MethodName := ⟨RX9, "<init>", "()V"⟩
abbrev cX9_clear : ByteArray := prog_11_method_2_code
def yX9_clear : MethodName := ⟨RX9, "clear", "()V"⟩
abbrev cX9_size : ByteArray := prog_11_method_3_code
def yX9_size : MethodName := ⟨RX9, "size", "()I"⟩
abbrev cX9_hasRoomFor : ByteArray := prog_11_method_4_code
def yX9_hasRoomFor : MethodName := ⟨RX9, "hasRoomFor", "(I)Z"⟩
abbrev cX9_append : ByteArray := prog_11_method_5_code
def yX9_append : MethodName := ⟨RX9, "append", "(I)V"⟩
def RX10 : String := "SpanPainter$Tokens"
def TX10 : u_T := fun k => match k with
  | 0 => ("SpanPainter$Tokens", "text", "LSpanPainter$Text;", true)
  | 1 => ("SpanPainter$Tokens", "length", "I", false)
  | 2 => ("SpanPainter$Tokens", "start", "I", false)
  | 3 => ("SpanPainter$Tokens", "end", "I", false)
  | 4 => ("SpanPainter$Tokens", "kind", "I", false)
  | 5 => ("SpanPainter$Tokens", "number", "I", false)
  | _ => ("SpanPainter$Tokens", "word", "J", false)
def tyX10 : Nat → FieldType := fun k => match k with
  | 0 => .object "SpanPainter$Text"
  | 1 => .int
  | 2 => .int
  | 3 => .int
  | 4 => .int
  | 5 => .int
  | _ => .long
abbrev wsX100 : List Cond := u_ws RX10 TX10 7
theorem nmX10 : ∀ a, a < 7 → ∀ b, b < 7 → a ≠ b → (TX10 a).2.1 ≠ (TX10 b).2.1 := by decide +kernel
theorem tyX10_ok : ∀ k, k < 7 → parseFieldDescriptor (TX10 k).2.2.1 = some (tyX10 k) := by decide +kernel
abbrev cX10_init : ByteArray := prog_12_method_1_code
def yX10_init : MethodName := ⟨RX10, "<init>", "(LSpanPainter$Text;)V"⟩
abbrev cX10_begin : ByteArray := prog_12_method_2_code
def yX10_begin : MethodName := ⟨RX10, "begin", "(I)V"⟩
abbrev cX10_next : ByteArray := prog_12_method_3_code
def yX10_next : MethodName := ⟨RX10, "next", "()V"⟩
abbrev cX10_takeLetters : ByteArray := prog_12_method_4_code
def yX10_takeLetters : MethodName := ⟨RX10, "takeLetters", "()V"⟩
abbrev cX10_takeDigits : ByteArray := prog_12_method_5_code
def yX10_takeDigits : MethodName := ⟨RX10, "takeDigits", "()V"⟩
def RX11 : String := "SpanPainter"
def TX11 : u_T := fun k => match k with
  | 0 => ("SpanPainter", "text", "LSpanPainter$Text;", true)
  | 1 => ("SpanPainter", "parser", "LSpanPainter$Parser;", true)
  | 2 => ("SpanPainter", "planner", "LSpanPainter$AutoPlanner;", true)
  | 3 => ("SpanPainter", "search", "LSpanPainter$SafeSearch;", true)
  | 4 => ("SpanPainter", "ranking", "LSpanPainter$Ranking;", true)
  | 5 => ("SpanPainter", "history", "LSpanPainter$History;", true)
  | 6 => ("SpanPainter", "output", "LSpanPainter$Output;", true)
  | 7 => ("SpanPainter", "bridge", "LSpanPainter$Bridge;", false)
  | 8 => ("SpanPainter", "plan", "LSpanPainter$Plan;", false)
  | 9 => ("SpanPainter", "spare", "LSpanPainter$Bridge;", false)
  | 10 => ("SpanPainter", "draft", "LSpanPainter$Plan;", false)
  | 11 => ("SpanPainter", "badKind", "I", false)
  | _ => ("SpanPainter", "badPosition", "I", false)
def tyX11 : Nat → FieldType := fun k => match k with
  | 0 => .object "SpanPainter$Text"
  | 1 => .object "SpanPainter$Parser"
  | 2 => .object "SpanPainter$AutoPlanner"
  | 3 => .object "SpanPainter$SafeSearch"
  | 4 => .object "SpanPainter$Ranking"
  | 5 => .object "SpanPainter$History"
  | 6 => .object "SpanPainter$Output"
  | 7 => .object "SpanPainter$Bridge"
  | 8 => .object "SpanPainter$Plan"
  | 9 => .object "SpanPainter$Bridge"
  | 10 => .object "SpanPainter$Plan"
  | 11 => .int
  | _ => .int
abbrev wsX110 : List Cond := u_ws RX11 TX11 13
theorem nmX11 : ∀ a, a < 13 → ∀ b, b < 13 → a ≠ b → (TX11 a).2.1 ≠ (TX11 b).2.1 := by decide +kernel
theorem tyX11_ok : ∀ k, k < 13 → parseFieldDescriptor (TX11 k).2.2.1 = some (tyX11 k) := by decide +kernel
abbrev cX11_init : ByteArray := prog_1_method_1_code
def yX11_init : MethodName := ⟨RX11, "<init>", "()V"⟩
abbrev cX11_feed : ByteArray := prog_1_method_2_code
def yX11_feed : MethodName := ⟨RX11, "feed", "(IIIII)I"⟩
abbrev cX11_load : ByteArray := prog_1_method_3_code
def yX11_load : MethodName := ⟨RX11, "load", "(I)I"⟩
abbrev cX11_errorKind : ByteArray := prog_1_method_4_code
def yX11_errorKind : MethodName := ⟨RX11, "errorKind", "()I"⟩
abbrev cX11_rustBefore : ByteArray := prog_1_method_6_code
def yX11_rustBefore : MethodName := ⟨RX11, "rustBefore", "(II)I"⟩
abbrev cX11_rustAfter : ByteArray := prog_1_method_7_code
def yX11_rustAfter : MethodName := ⟨RX11, "rustAfter", "(II)I"⟩
abbrev cX11_guardLeft : ByteArray := prog_1_method_8_code
def yX11_guardLeft : MethodName := ⟨RX11, "guardLeft", "(II)I"⟩
abbrev cX11_pastYear : ByteArray := prog_1_method_9_code
def yX11_pastYear : MethodName := ⟨RX11, "pastYear", "(I)I"⟩
abbrev cX11_effort : ByteArray := prog_1_method_19_code
def yX11_effort : MethodName := ⟨RX11, "effort", "(II)I"⟩
abbrev cX11_capacity : ByteArray := prog_1_method_20_code
def yX11_capacity : MethodName := ⟨RX11, "capacity", "(II)I"⟩
abbrev cX11_loadOf : ByteArray := prog_1_method_21_code
def yX11_loadOf : MethodName := ⟨RX11, "loadOf", "(II)I"⟩
abbrev cX11_paintings : ByteArray := prog_1_method_25_code
def yX11_paintings : MethodName := ⟨RX11, "paintings", "()I"⟩
abbrev cX11_refusal : ByteArray := prog_1_method_36_code
def yX11_refusal : MethodName := ⟨RX11, "refusal", "(III)I"⟩
abbrev cX11_paint : ByteArray := prog_1_method_43_code
def yX11_paint : MethodName := ⟨RX11, "paint", "(III)I"⟩
abbrev cX11_undo : ByteArray := prog_1_method_54_code
def yX11_undo : MethodName := ⟨RX11, "undo", "()I"⟩
abbrev cX11_checkYear : ByteArray := prog_1_method_66_code
def yX11_checkYear : MethodName := ⟨RX11, "checkYear", "(I)V"⟩
abbrev cX11_checkSpan : ByteArray := prog_1_method_67_code
def yX11_checkSpan : MethodName := ⟨RX11, "checkSpan", "(I)V"⟩
abbrev cX11_checkGang : ByteArray := prog_1_method_69_code
def yX11_checkGang : MethodName := ⟨RX11, "checkGang", "(I)V"⟩
abbrev cX11_remember : ByteArray := prog_1_method_71_code
def yX11_remember : MethodName := ⟨RX11, "remember", "()V"⟩
abbrev cX11_takeDraft : ByteArray := prog_1_method_72_code
def yX11_takeDraft : MethodName := ⟨RX11, "takeDraft", "()V"⟩
def RX12 : String := "SpanPainterModel"
def TX12 : u_T := fun k => match k with
  | _ => ("", "", "", false)
def tyX12 : Nat → FieldType := fun k => match k with
  | _ => .int
abbrev wsX120 : List Cond := u_ws RX12 TX12 0
theorem nmX12 : ∀ a, a < 0 → ∀ b, b < 0 → a ≠ b → (TX12 a).2.1 ≠ (TX12 b).2.1 := by decide +kernel
theorem tyX12_ok : ∀ k, k < 0 → parseFieldDescriptor (TX12 k).2.2.1 = some (tyX12 k) := by decide +kernel
def RJx145de : String := "java/io/Serializable"
def TJx145de : u_T := fun k => match k with
  | _ => ("", "", "", false)
def tyJx145de : Nat → FieldType := fun k => match k with
  | _ => .int
abbrev wsJx145de0 : List Cond := u_ws RJx145de TJx145de 0
theorem nmJx145de : ∀ a, a < 0 → ∀ b, b < 0 → a ≠ b → (TJx145de a).2.1 ≠ (TJx145de b).2.1 := by decide +kernel
theorem tyJx145de_ok : ∀ k, k < 0 → parseFieldDescriptor (TJx145de k).2.2.1 = some (tyJx145de k) := by decide +kernel
def RJ5 : String := "java/lang/AbstractStringBuilder"
def TJ5 : u_T := fun k => match k with
  | _ => ("", "", "", false)
def tyJ5 : Nat → FieldType := fun k => match k with
  | _ => .int
abbrev wsJ50 : List Cond := u_ws RJ5 TJ5 0
theorem nmJ5 : ∀ a, a < 0 → ∀ b, b < 0 → a ≠ b → (TJ5 a).2.1 ≠ (TJ5 b).2.1 := by decide +kernel
theorem tyJ5_ok : ∀ k, k < 0 → parseFieldDescriptor (TJ5 k).2.2.1 = some (tyJ5 k) := by decide +kernel
abbrev cJ5_init_d00df : ByteArray := prog_15_method_2_code
def yJ5_init_d00df : MethodName := ⟨RJ5, "<init>", "(I)V"⟩
abbrev cJ5_length_8abf5 : ByteArray := prog_15_method_6_code
def yJ5_length_8abf5 : MethodName := ⟨RJ5, "length", "()I"⟩
abbrev cJ5_ensureCapacityInternal_d00df : ByteArray := prog_15_method_9_code
def yJ5_ensureCapacityInternal_d00df : MethodName := ⟨RJ5, "ensureCapacityInternal", "(I)V"⟩
abbrev cJ5_newCapacity_0f7a4 : ByteArray := prog_15_method_10_code
def yJ5_newCapacity_0f7a4 : MethodName := ⟨RJ5, "newCapacity", "(I)I"⟩
abbrev cJ5_inflate_da8c8 : ByteArray := prog_15_method_11_code
def yJ5_inflate_da8c8 : MethodName := ⟨RJ5, "inflate", "()V"⟩
abbrev cJ5_append_cf1ce : ByteArray := prog_15_method_22_code
def yJ5_append_cf1ce : MethodName := ⟨RJ5, "append", "(Ljava/lang/String;)Ljava/lang/AbstractStringBuilder;"⟩
abbrev cJ5_appendNull_278bc : ByteArray := prog_15_method_26_code
def yJ5_appendNull_278bc : MethodName := ⟨RJ5, "appendNull", "()Ljava/lang/AbstractStringBuilder;"⟩
abbrev cJ5_append_3fe6f : ByteArray := prog_15_method_31_code
def yJ5_append_3fe6f : MethodName := ⟨RJ5, "append", "(C)Ljava/lang/AbstractStringBuilder;"⟩
abbrev cJ5_append_c97b9 : ByteArray := prog_15_method_32_code
def yJ5_append_c97b9 : MethodName := ⟨RJ5, "append", "(I)Ljava/lang/AbstractStringBuilder;"⟩
abbrev cJ5_getValue_6d5f1 : ByteArray := prog_15_method_64_code
def yJ5_getValue_6d5f1 : MethodName := ⟨RJ5, "getValue", "()[B"⟩
abbrev cJ5_isLatin1_aae02 : ByteArray := prog_15_method_68_code
def yJ5_isLatin1_aae02 : MethodName := ⟨RJ5, "isLatin1", "()Z"⟩
abbrev cJ5_inflateIfNeededFor_a7421 : ByteArray := prog_15_method_71_code
def yJ5_inflateIfNeededFor_a7421 : MethodName := ⟨RJ5, "inflateIfNeededFor", "(Ljava/lang/String;)V"⟩
abbrev cJ5_putStringAt_47b60 : ByteArray := prog_15_method_73_code
def yJ5_putStringAt_47b60 : MethodName := ⟨RJ5, "putStringAt", "(ILjava/lang/String;)V"⟩
def RJx2cfe8 : String := "java/lang/Appendable"
def TJx2cfe8 : u_T := fun k => match k with
  | _ => ("", "", "", false)
def tyJx2cfe8 : Nat → FieldType := fun k => match k with
  | _ => .int
abbrev wsJx2cfe80 : List Cond := u_ws RJx2cfe8 TJx2cfe8 0
theorem nmJx2cfe8 : ∀ a, a < 0 → ∀ b, b < 0 → a ≠ b → (TJx2cfe8 a).2.1 ≠ (TJx2cfe8 b).2.1 := by decide +kernel
theorem tyJx2cfe8_ok : ∀ k, k < 0 → parseFieldDescriptor (TJx2cfe8 k).2.2.1 = some (tyJx2cfe8 k) := by decide +kernel
def RJx9f9b0 : String := "java/lang/CharSequence"
def TJx9f9b0 : u_T := fun k => match k with
  | _ => ("", "", "", false)
def tyJx9f9b0 : Nat → FieldType := fun k => match k with
  | _ => .int
abbrev wsJx9f9b00 : List Cond := u_ws RJx9f9b0 TJx9f9b0 0
theorem nmJx9f9b0 : ∀ a, a < 0 → ∀ b, b < 0 → a ≠ b → (TJx9f9b0 a).2.1 ≠ (TJx9f9b0 b).2.1 := by decide +kernel
theorem tyJx9f9b0_ok : ∀ k, k < 0 → parseFieldDescriptor (TJx9f9b0 k).2.2.1 = some (tyJx9f9b0 k) := by decide +kernel
def RJx8e188 : String := "java/lang/Cloneable"
def TJx8e188 : u_T := fun k => match k with
  | _ => ("", "", "", false)
def tyJx8e188 : Nat → FieldType := fun k => match k with
  | _ => .int
abbrev wsJx8e1880 : List Cond := u_ws RJx8e188 TJx8e188 0
theorem nmJx8e188 : ∀ a, a < 0 → ∀ b, b < 0 → a ≠ b → (TJx8e188 a).2.1 ≠ (TJx8e188 b).2.1 := by decide +kernel
theorem tyJx8e188_ok : ∀ k, k < 0 → parseFieldDescriptor (TJx8e188 k).2.2.1 = some (tyJx8e188 k) := by decide +kernel
def RJxb160c : String := "java/lang/Comparable"
def TJxb160c : u_T := fun k => match k with
  | _ => ("", "", "", false)
def tyJxb160c : Nat → FieldType := fun k => match k with
  | _ => .int
abbrev wsJxb160c0 : List Cond := u_ws RJxb160c TJxb160c 0
theorem nmJxb160c : ∀ a, a < 0 → ∀ b, b < 0 → a ≠ b → (TJxb160c a).2.1 ≠ (TJxb160c b).2.1 := by decide +kernel
theorem tyJxb160c_ok : ∀ k, k < 0 → parseFieldDescriptor (TJxb160c k).2.2.1 = some (tyJxb160c k) := by decide +kernel
def RJ6 : String := "java/lang/Integer"
def TJ6 : u_T := fun k => match k with
  | _ => ("", "", "", false)
def tyJ6 : Nat → FieldType := fun k => match k with
  | _ => .int
abbrev wsJ60 : List Cond := u_ws RJ6 TJ6 0
theorem nmJ6 : ∀ a, a < 0 → ∀ b, b < 0 → a ≠ b → (TJ6 a).2.1 ≠ (TJ6 b).2.1 := by decide +kernel
theorem tyJ6_ok : ∀ k, k < 0 → parseFieldDescriptor (TJ6 k).2.2.1 = some (tyJ6 k) := by decide +kernel
abbrev cJ6_getChars_ba4f3 : ByteArray := prog_20_method_12_code
def yJ6_getChars_ba4f3 : MethodName := ⟨RJ6, "getChars", "(II[B)I"⟩
abbrev cJ6_stringSize_0f7a4 : ByteArray := prog_20_method_13_code
def yJ6_stringSize_0f7a4 : MethodName := ⟨RJ6, "stringSize", "(I)I"⟩
abbrev cJ6_bitCount_0f7a4 : ByteArray := prog_20_method_49_code
def yJ6_bitCount_0f7a4 : MethodName := ⟨RJ6, "bitCount", "(I)I"⟩
def RJ9 : String := "java/lang/Math"
def TJ9 : u_T := fun k => match k with
  | _ => ("", "", "", false)
def tyJ9 : Nat → FieldType := fun k => match k with
  | _ => .int
abbrev wsJ90 : List Cond := u_ws RJ9 TJ9 0
theorem nmJ9 : ∀ a, a < 0 → ∀ b, b < 0 → a ≠ b → (TJ9 a).2.1 ≠ (TJ9 b).2.1 := by decide +kernel
theorem tyJ9_ok : ∀ k, k < 0 → parseFieldDescriptor (TJ9 k).2.2.1 = some (tyJ9 k) := by decide +kernel
abbrev cJ9_max_7cf53 : ByteArray := prog_21_method_65_code
def yJ9_max_7cf53 : MethodName := ⟨RJ9, "max", "(II)I"⟩
abbrev cJ9_min_7cf53 : ByteArray := prog_21_method_69_code
def yJ9_min_7cf53 : MethodName := ⟨RJ9, "min", "(II)I"⟩
def RJxd2413 : String := "java/lang/Number"
def TJxd2413 : u_T := fun k => match k with
  | _ => ("", "", "", false)
def tyJxd2413 : Nat → FieldType := fun k => match k with
  | _ => .int
abbrev wsJxd24130 : List Cond := u_ws RJxd2413 TJxd2413 0
theorem nmJxd2413 : ∀ a, a < 0 → ∀ b, b < 0 → a ≠ b → (TJxd2413 a).2.1 ≠ (TJxd2413 b).2.1 := by decide +kernel
theorem tyJxd2413_ok : ∀ k, k < 0 → parseFieldDescriptor (TJxd2413 k).2.2.1 = some (tyJxd2413 k) := by decide +kernel
def RJ0 : String := "java/lang/String"
def TJ0 : u_T := fun k => match k with
  | 0 => ("java/lang/String", "value", "[B", true)
  | 1 => ("java/lang/String", "coder", "B", true)
  | 2 => ("java/lang/String", "hash", "I", false)
  | _ => ("java/lang/String", "hashIsZero", "Z", false)
def tyJ0 : Nat → FieldType := fun k => match k with
  | 0 => .array .byte
  | 1 => .byte
  | 2 => .int
  | _ => .boolean
abbrev wsJ00 : List Cond := u_ws RJ0 TJ0 4
theorem nmJ0 : ∀ a, a < 4 → ∀ b, b < 4 → a ≠ b → (TJ0 a).2.1 ≠ (TJ0 b).2.1 := by decide +kernel
theorem tyJ0_ok : ∀ k, k < 4 → parseFieldDescriptor (TJ0 k).2.2.1 = some (tyJ0 k) := by decide +kernel
abbrev cJ0_init_81219 : ByteArray := prog_24_method_53_code
def yJ0_init_81219 : MethodName := ⟨RJ0, "<init>", "(Ljava/lang/StringBuilder;)V"⟩
abbrev cJ0_length_8abf5 : ByteArray := prog_24_method_54_code
def yJ0_length_8abf5 : MethodName := ⟨RJ0, "length", "()I"⟩
abbrev cJ0_charAt_5068e : ByteArray := prog_24_method_56_code
def yJ0_charAt_5068e : MethodName := ⟨RJ0, "charAt", "(I)C"⟩
abbrev cJ0_getBytes_840e7 : ByteArray := prog_24_method_147_code
def yJ0_getBytes_840e7 : MethodName := ⟨RJ0, "getBytes", "([BIB)V"⟩
abbrev cJ0_init_db425 : ByteArray := prog_24_method_150_code
def yJ0_init_db425 : MethodName := ⟨RJ0, "<init>", "(Ljava/lang/AbstractStringBuilder;Ljava/lang/Void;)V"⟩
abbrev cJ0_coder_7d493 : ByteArray := prog_24_method_152_code
def yJ0_coder_7d493 : MethodName := ⟨RJ0, "coder", "()B"⟩
abbrev cJ0_isLatin1_aae02 : ByteArray := prog_24_method_154_code
def yJ0_isLatin1_aae02 : MethodName := ⟨RJ0, "isLatin1", "()Z"⟩
abbrev cJ0_checkIndex_df160 : ByteArray := prog_24_method_155_code
def yJ0_checkIndex_df160 : MethodName := ⟨RJ0, "checkIndex", "(II)V"⟩
abbrev cJ0_checkBoundsOffCount_cabcc : ByteArray := prog_24_method_157_code
def yJ0_checkBoundsOffCount_cabcc : MethodName := ⟨RJ0, "checkBoundsOffCount", "(III)I"⟩
abbrev cJ0_checkBoundsBeginEnd_23922 : ByteArray := prog_24_method_158_code
def yJ0_checkBoundsBeginEnd_23922 : MethodName := ⟨RJ0, "checkBoundsBeginEnd", "(III)V"⟩
def RJ4 : String := "java/lang/StringBuilder"
def TJ4 : u_T := fun k => match k with
  | 0 => ("java/lang/AbstractStringBuilder", "value", "[B", false)
  | 1 => ("java/lang/AbstractStringBuilder", "coder", "B", false)
  | 2 => ("java/lang/AbstractStringBuilder", "maybeLatin1", "Z", false)
  | _ => ("java/lang/AbstractStringBuilder", "count", "I", false)
def tyJ4 : Nat → FieldType := fun k => match k with
  | 0 => .array .byte
  | 1 => .byte
  | 2 => .boolean
  | _ => .int
abbrev wsJ40 : List Cond := u_ws RJ4 TJ4 4
theorem nmJ4 : ∀ a, a < 4 → ∀ b, b < 4 → a ≠ b → (TJ4 a).2.1 ≠ (TJ4 b).2.1 := by decide +kernel
theorem tyJ4_ok : ∀ k, k < 4 → parseFieldDescriptor (TJ4 k).2.2.1 = some (tyJ4 k) := by decide +kernel
abbrev cJ4_init_da8c8 : ByteArray := prog_25_method_1_code
def yJ4_init_da8c8 : MethodName := ⟨RJ4, "<init>", "()V"⟩
abbrev cJ4_append_15ec4 : ByteArray := prog_25_method_7_code
def yJ4_append_15ec4 : MethodName := ⟨RJ4, "append", "(Ljava/lang/String;)Ljava/lang/StringBuilder;"⟩
abbrev cJ4_append_cf468 : ByteArray := prog_25_method_14_code
def yJ4_append_cf468 : MethodName := ⟨RJ4, "append", "(C)Ljava/lang/StringBuilder;"⟩
abbrev cJ4_append_bf812 : ByteArray := prog_25_method_15_code
def yJ4_append_bf812 : MethodName := ⟨RJ4, "append", "(I)Ljava/lang/StringBuilder;"⟩
abbrev cJ4_toString_0e30d : ByteArray := prog_25_method_42_code
def yJ4_toString_0e30d : MethodName := ⟨RJ4, "toString", "()Ljava/lang/String;"⟩
abbrev cJ4_length_8abf5 : ByteArray := prog_25_method_93_code
def yJ4_length_8abf5 : MethodName := ⟨RJ4, "length", "()I"⟩
def RJ1 : String := "java/lang/StringLatin1"
def TJ1 : u_T := fun k => match k with
  | _ => ("", "", "", false)
def tyJ1 : Nat → FieldType := fun k => match k with
  | _ => .int
abbrev wsJ10 : List Cond := u_ws RJ1 TJ1 0
theorem nmJ1 : ∀ a, a < 0 → ∀ b, b < 0 → a ≠ b → (TJ1 a).2.1 ≠ (TJ1 b).2.1 := by decide +kernel
theorem tyJ1_ok : ∀ k, k < 0 → parseFieldDescriptor (TJ1 k).2.2.1 = some (tyJ1 k) := by decide +kernel
abbrev cJ1_charAt_3b067 : ByteArray := prog_26_method_2_code
def yJ1_charAt_3b067 : MethodName := ⟨RJ1, "charAt", "([BI)C"⟩
abbrev cJ1_canEncode_fc78d : ByteArray := prog_26_method_3_code
def yJ1_canEncode_fc78d : MethodName := ⟨RJ1, "canEncode", "(C)Z"⟩
abbrev cJ1_inflate_0e8fd : ByteArray := prog_26_method_50_code
def yJ1_inflate_0e8fd : MethodName := ⟨RJ1, "inflate", "([BI[BII)V"⟩
def RJ2 : String := "java/lang/StringUTF16"
def TJ2 : u_T := fun k => match k with
  | _ => ("", "", "", false)
def tyJ2 : Nat → FieldType := fun k => match k with
  | _ => .int
abbrev wsJ20 : List Cond := u_ws RJ2 TJ2 0
theorem nmJ2 : ∀ a, a < 0 → ∀ b, b < 0 → a ≠ b → (TJ2 a).2.1 ≠ (TJ2 b).2.1 := by decide +kernel
theorem tyJ2_ok : ∀ k, k < 0 → parseFieldDescriptor (TJ2 k).2.2.1 = some (tyJ2 k) := by decide +kernel
abbrev cJ2_newBytesFor_77867 : ByteArray := prog_27_method_2_code
def yJ2_newBytesFor_77867 : MethodName := ⟨RJ2, "newBytesFor", "(I)[B"⟩
abbrev cJ2_newBytesLength_0f7a4 : ByteArray := prog_27_method_3_code
def yJ2_newBytesLength_0f7a4 : MethodName := ⟨RJ2, "newBytesLength", "(I)I"⟩
abbrev cJ2_putChar_b72d1 : ByteArray := prog_27_method_4_code
def yJ2_putChar_b72d1 : MethodName := ⟨RJ2, "putChar", "([BII)V"⟩
abbrev cJ2_getChar_3b067 : ByteArray := prog_27_method_5_code
def yJ2_getChar_3b067 : MethodName := ⟨RJ2, "getChar", "([BI)C"⟩
abbrev cJ2_length_9d52b : ByteArray := prog_27_method_6_code
def yJ2_length_9d52b : MethodName := ⟨RJ2, "length", "([B)I"⟩
abbrev cJ2_coderFromArrayLen_85cad : ByteArray := prog_27_method_15_code
def yJ2_coderFromArrayLen_85cad : MethodName := ⟨RJ2, "coderFromArrayLen", "([BI)B"⟩
abbrev cJ2_compress_39247 : ByteArray := prog_27_method_17_code
def yJ2_compress_39247 : MethodName := ⟨RJ2, "compress", "([BII)[B"⟩
abbrev cJ2_compress_5af95 : ByteArray := prog_27_method_22_code
def yJ2_compress_5af95 : MethodName := ⟨RJ2, "compress", "([BI[BII)I"⟩
abbrev cJ2_putCharSB_b72d1 : ByteArray := prog_27_method_71_code
def yJ2_putCharSB_b72d1 : MethodName := ⟨RJ2, "putCharSB", "([BII)V"⟩
abbrev cJ2_getChars_46870 : ByteArray := prog_27_method_77_code
def yJ2_getChars_46870 : MethodName := ⟨RJ2, "getChars", "(III[B)I"⟩
abbrev cJ2_putCharsAt_cd4e5 : ByteArray := prog_27_method_81_code
def yJ2_putCharsAt_cd4e5 : MethodName := ⟨RJ2, "putCharsAt", "([BICCCC)I"⟩
abbrev cJ2_charAt_3b067 : ByteArray := prog_27_method_83_code
def yJ2_charAt_3b067 : MethodName := ⟨RJ2, "charAt", "([BI)C"⟩
abbrev cJ2_inflate_0e8fd : ByteArray := prog_27_method_86_code
def yJ2_inflate_0e8fd : MethodName := ⟨RJ2, "inflate", "([BI[BII)V"⟩
abbrev cJ2_getChars_ba4f3 : ByteArray := prog_27_method_89_code
def yJ2_getChars_ba4f3 : MethodName := ⟨RJ2, "getChars", "(II[B)I"⟩
abbrev cJ2_checkIndex_2214a : ByteArray := prog_27_method_91_code
def yJ2_checkIndex_2214a : MethodName := ⟨RJ2, "checkIndex", "(I[B)V"⟩
abbrev cJ2_checkBoundsBeginEnd_d044e : ByteArray := prog_27_method_93_code
def yJ2_checkBoundsBeginEnd_d044e : MethodName := ⟨RJ2, "checkBoundsBeginEnd", "(II[B)V"⟩
abbrev cJ2_checkBoundsOffCount_d044e : ByteArray := prog_27_method_94_code
def yJ2_checkBoundsOffCount_d044e : MethodName := ⟨RJ2, "checkBoundsOffCount", "(II[B)V"⟩
def RJ10 : String := "java/lang/System"
def TJ10 : u_T := fun k => match k with
  | _ => ("", "", "", false)
def tyJ10 : Nat → FieldType := fun k => match k with
  | _ => .int
abbrev wsJ100 : List Cond := u_ws RJ10 TJ10 0
theorem nmJ10 : ∀ a, a < 0 → ∀ b, b < 0 → a ≠ b → (TJ10 a).2.1 ≠ (TJ10 b).2.1 := by decide +kernel
theorem tyJ10_ok : ∀ k, k < 0 → parseFieldDescriptor (TJ10 k).2.2.1 = some (tyJ10 k) := by decide +kernel
def RJxfd54e : String := "java/lang/constant/Constable"
def TJxfd54e : u_T := fun k => match k with
  | _ => ("", "", "", false)
def tyJxfd54e : Nat → FieldType := fun k => match k with
  | _ => .int
abbrev wsJxfd54e0 : List Cond := u_ws RJxfd54e TJxfd54e 0
theorem nmJxfd54e : ∀ a, a < 0 → ∀ b, b < 0 → a ≠ b → (TJxfd54e a).2.1 ≠ (TJxfd54e b).2.1 := by decide +kernel
theorem tyJxfd54e_ok : ∀ k, k < 0 → parseFieldDescriptor (TJxfd54e k).2.2.1 = some (tyJxfd54e k) := by decide +kernel
def RJx3cf43 : String := "java/lang/constant/ConstantDesc"
def TJx3cf43 : u_T := fun k => match k with
  | _ => ("", "", "", false)
def tyJx3cf43 : Nat → FieldType := fun k => match k with
  | _ => .int
abbrev wsJx3cf430 : List Cond := u_ws RJx3cf43 TJx3cf43 0
theorem nmJx3cf43 : ∀ a, a < 0 → ∀ b, b < 0 → a ≠ b → (TJx3cf43 a).2.1 ≠ (TJx3cf43 b).2.1 := by decide +kernel
theorem tyJx3cf43_ok : ∀ k, k < 0 → parseFieldDescriptor (TJx3cf43 k).2.2.1 = some (tyJx3cf43 k) := by decide +kernel
def RJ7 : String := "java/util/Arrays"
def TJ7 : u_T := fun k => match k with
  | _ => ("", "", "", false)
def tyJ7 : Nat → FieldType := fun k => match k with
  | _ => .int
abbrev wsJ70 : List Cond := u_ws RJ7 TJ7 0
theorem nmJ7 : ∀ a, a < 0 → ∀ b, b < 0 → a ≠ b → (TJ7 a).2.1 ≠ (TJ7 b).2.1 := by decide +kernel
theorem tyJ7_ok : ∀ k, k < 0 → parseFieldDescriptor (TJ7 k).2.2.1 = some (tyJ7 k) := by decide +kernel
abbrev cJ7_fill_53178 : ByteArray := prog_30_method_103_code
def yJ7_fill_53178 : MethodName := ⟨RJ7, "fill", "([II)V"⟩
abbrev cJ7_copyOf_9075b : ByteArray := prog_30_method_121_code
def yJ7_copyOf_9075b : MethodName := ⟨RJ7, "copyOf", "([BI)[B"⟩
abbrev cJ7_checkLength_df160 : ByteArray := prog_30_method_131_code
def yJ7_checkLength_df160 : MethodName := ⟨RJ7, "checkLength", "(II)V"⟩
abbrev cJ7_copyOfRange_39247 : ByteArray := prog_30_method_132_code
def yJ7_copyOfRange_39247 : MethodName := ⟨RJ7, "copyOfRange", "([BII)[B"⟩
abbrev cJ7_copyOfRangeByte_39247 : ByteArray := prog_30_method_133_code
def yJ7_copyOfRangeByte_39247 : MethodName := ⟨RJ7, "copyOfRangeByte", "([BII)[B"⟩
def RJ8 : String := "jdk/internal/util/ArraysSupport"
def TJ8 : u_T := fun k => match k with
  | _ => ("", "", "", false)
def tyJ8 : Nat → FieldType := fun k => match k with
  | _ => .int
abbrev wsJ80 : List Cond := u_ws RJ8 TJ8 0
theorem nmJ8 : ∀ a, a < 0 → ∀ b, b < 0 → a ≠ b → (TJ8 a).2.1 ≠ (TJ8 b).2.1 := by decide +kernel
theorem tyJ8_ok : ∀ k, k < 0 → parseFieldDescriptor (TJ8 k).2.2.1 = some (tyJ8 k) := by decide +kernel
abbrev cJ8_newLength_cabcc : ByteArray := prog_31_method_27_code
def yJ8_newLength_cabcc : MethodName := ⟨RJ8, "newLength", "(III)I"⟩
abbrev cJ8_hugeLength_7cf53 : ByteArray := prog_31_method_28_code
def yJ8_hugeLength_7cf53 : MethodName := ⟨RJ8, "hugeLength", "(II)I"⟩
def RJ3 : String := "jdk/internal/util/Preconditions"
def TJ3 : u_T := fun k => match k with
  | _ => ("", "", "", false)
def tyJ3 : Nat → FieldType := fun k => match k with
  | _ => .int
abbrev wsJ30 : List Cond := u_ws RJ3 TJ3 0
theorem nmJ3 : ∀ a, a < 0 → ∀ b, b < 0 → a ≠ b → (TJ3 a).2.1 ≠ (TJ3 b).2.1 := by decide +kernel
theorem tyJ3_ok : ∀ k, k < 0 → parseFieldDescriptor (TJ3 k).2.2.1 = some (tyJ3 k) := by decide +kernel
abbrev cJ3_checkIndex_8e157 : ByteArray := prog_32_method_11_code
def yJ3_checkIndex_8e157 : MethodName := ⟨RJ3, "checkIndex", "(IILjava/util/function/BiFunction;)I"⟩
abbrev cJ3_checkFromToIndex_8c36e : ByteArray := prog_32_method_12_code
def yJ3_checkFromToIndex_8c36e : MethodName := ⟨RJ3, "checkFromToIndex", "(IIILjava/util/function/BiFunction;)I"⟩
abbrev cJ3_checkFromIndexSize_8c36e : ByteArray := prog_32_method_13_code
def yJ3_checkFromIndexSize_8c36e : MethodName := ⟨RJ3, "checkFromIndexSize", "(IIILjava/util/function/BiFunction;)I"⟩
def RL : String := "SpanPainterLaw"
def TL : u_T := fun k => match k with
  | 0 => ("SpanPainterLaw", "choices", "[I", false)
  | 1 => ("SpanPainterLaw", "at", "I", false)
  | 2 => ("SpanPainterLaw", "years", "I", false)
  | 3 => ("SpanPainterLaw", "shut", "I", false)
  | 4 => ("SpanPainterLaw", "guard", "I", false)
  | 5 => ("SpanPainterLaw", "lanes", "I", false)
  | 6 => ("SpanPainterLaw", "spans", "I", false)
  | 7 => ("SpanPainterLaw", "gangs", "I", false)
  | 8 => ("SpanPainterLaw", "lane", "[I", true)
  | 9 => ("SpanPainterLaw", "area", "[I", true)
  | 10 => ("SpanPainterLaw", "rust", "[I", true)
  | 11 => ("SpanPainterLaw", "rate", "[I", true)
  | 12 => ("SpanPainterLaw", "limit", "[I", true)
  | 13 => ("SpanPainterLaw", "speed", "[I", true)
  | 14 => ("SpanPainterLaw", "wage", "[I", true)
  | 15 => ("SpanPainterLaw", "days", "[I", true)
  | 16 => ("SpanPainterLaw", "by", "[[I", true)
  | _ => ("SpanPainterLaw", "left", "I", false)
def tyL : Nat → FieldType := fun k => match k with
  | 0 => .array .int
  | 1 => .int
  | 2 => .int
  | 3 => .int
  | 4 => .int
  | 5 => .int
  | 6 => .int
  | 7 => .int
  | 8 => .array .int
  | 9 => .array .int
  | 10 => .array .int
  | 11 => .array .int
  | 12 => .array .int
  | 13 => .array .int
  | 14 => .array .int
  | 15 => .array .int
  | 16 => .array (.array .int)
  | _ => .int
abbrev wsL0 : List Cond := u_ws RL TL 18
theorem nmL : ∀ a, a < 18 → ∀ b, b < 18 → a ≠ b → (TL a).2.1 ≠ (TL b).2.1 := by decide +kernel
theorem tyL_ok : ∀ k, k < 18 → parseFieldDescriptor (TL k).2.2.1 = some (tyL k) := by decide +kernel
abbrev cL_init : ByteArray := method_1_code
def yL_init : MethodName := ⟨RL, "<init>", "()V"⟩
abbrev cL_among : ByteArray := method_2_code
def yL_among : MethodName := ⟨RL, "among", "(II)I"⟩
abbrev cL_cell : ByteArray := method_3_code
def yL_cell : MethodName := ⟨RL, "cell", "([II)I"⟩
abbrev cL_four : ByteArray := method_4_code
def yL_four : MethodName := ⟨RL, "four", "(Ljava/lang/String;I)I"⟩
abbrev cL_load : ByteArray := method_5_code
def yL_load : MethodName := ⟨RL, "load", "(LSpanPainter;Ljava/lang/String;)I"⟩
abbrev cL_chosen : ByteArray := method_6_code
def yL_chosen : MethodName := ⟨RL, "chosen", "(I)I"⟩
abbrev cL_bridge : ByteArray := method_7_code
def yL_bridge : MethodName := ⟨RL, "bridge", "()Ljava/lang/String;"⟩
abbrev cL_span : ByteArray := method_8_code
def yL_span : MethodName := ⟨RL, "span", "(I)Ljava/lang/String;"⟩
abbrev cL_law : ByteArray := code
def yL_law : MethodName := ⟨RL, "law", "([I)Z"⟩
abbrev cL_isRefused : ByteArray := method_10_code
def yL_isRefused : MethodName := ⟨RL, "isRefused", "(LSpanPainter;I)Z"⟩
abbrev cL_end : ByteArray := method_11_code
def yL_end : MethodName := ⟨RL, "end", "(II)I"⟩
abbrev cL_begin : ByteArray := method_12_code
def yL_begin : MethodName := ⟨RL, "begin", "(II)I"⟩
abbrev cL_effort : ByteArray := method_13_code
def yL_effort : MethodName := ⟨RL, "effort", "(II)I"⟩
abbrev cL_load_ : ByteArray := method_14_code
def yL_load_ : MethodName := ⟨RL, "load", "(II)I"⟩
abbrev cL_refused : ByteArray := method_15_code
def yL_refused : MethodName := ⟨RL, "refused", "(III)I"⟩
abbrev cL_isSame : ByteArray := method_16_code
def yL_isSame : MethodName := ⟨RL, "isSame", "(LSpanPainter;)Z"⟩
def wsL_law0_r1 : List Cond := [Cond.classLink RL 8 RL, Cond.instantiable RL 18, Cond.initialized RL, Cond.fieldLink RL 7 "SpanPainterLaw" "choices" "[I", Cond.classLink RL 57 RX11, Cond.instantiable RX11 13, Cond.initialized RX11, Cond.fieldLink RL 93 "SpanPainterLaw" "spans" "I", Cond.fieldLink RL 39 "SpanPainterLaw" "by" "[[I", Cond.fieldLink RL 81 "SpanPainterLaw" "years" "I", Cond.fieldLink RL 96 "SpanPainterLaw" "gangs" "I", Cond.constant RL 175 (-1000004), Cond.methodLink RL 138 yL_init, Cond.instanceMethod yL_init, Cond.code yL_init cL_init 1 none, Cond.methodLink RL 1 objectInit, Cond.instanceMethod objectInit, Cond.code objectInit ⟨#[0xb1]⟩ 1 none, Cond.arrayClass .int, Cond.fieldLink RL 13 "SpanPainterLaw" "lane" "[I", Cond.fieldLink RL 16 "SpanPainterLaw" "area" "[I", Cond.fieldLink RL 19 "SpanPainterLaw" "rust" "[I", Cond.fieldLink RL 22 "SpanPainterLaw" "rate" "[I", Cond.fieldLink RL 25 "SpanPainterLaw" "limit" "[I"]
def wsL_law0_r2 : List Cond := [Cond.fieldLink RL 28 "SpanPainterLaw" "speed" "[I", Cond.fieldLink RL 31 "SpanPainterLaw" "wage" "[I", Cond.fieldLink RL 34 "SpanPainterLaw" "days" "[I", Cond.classLink RL 37 "[[I", Cond.methodLink RL 139 yX11_init, Cond.instanceMethod yX11_init, Cond.code yX11_init cX11_init 5 none, Cond.methodLink RX11 3 objectInit, Cond.classLink RX11 9 RX0, Cond.instantiable RX0 1, Cond.initialized RX0, Cond.fieldLink RX11 12 "SpanPainter" "planner" "LSpanPainter$AutoPlanner;", Cond.classLink RX11 16 RX8, Cond.instantiable RX8 2, Cond.initialized RX8, Cond.fieldLink RX11 19 "SpanPainter" "search" "LSpanPainter$SafeSearch;", Cond.classLink RX11 23 RX7, Cond.instantiable RX7 2, Cond.initialized RX7, Cond.fieldLink RX11 26 "SpanPainter" "ranking" "LSpanPainter$Ranking;", Cond.classLink RX11 30 RX2, Cond.instantiable RX2 3, Cond.initialized RX2, Cond.fieldLink RX11 33 "SpanPainter" "history" "LSpanPainter$History;"]
def wsL_law0_r3 : List Cond := [Cond.classLink RX11 37 RX4, Cond.instantiable RX4 2, Cond.initialized RX4, Cond.fieldLink RX11 40 "SpanPainter" "output" "LSpanPainter$Output;", Cond.fieldLink RX11 44 "SpanPainter" "badKind" "I", Cond.constant RX11 48 (-1000004), Cond.fieldLink RX11 49 "SpanPainter" "badPosition" "I", Cond.classLink RX11 52 RX9, Cond.instantiable RX9 2, Cond.initialized RX9, Cond.classLink RX11 55 RX1, Cond.instantiable RX1 16, Cond.initialized RX1, Cond.classLink RX11 58 RX6, Cond.instantiable RX6 4, Cond.initialized RX6, Cond.fieldLink RX11 63 "SpanPainter" "text" "LSpanPainter$Text;", Cond.fieldLink RX11 67 "SpanPainter" "bridge" "LSpanPainter$Bridge;", Cond.fieldLink RX11 71 "SpanPainter" "plan" "LSpanPainter$Plan;", Cond.fieldLink RX11 75 "SpanPainter" "spare" "LSpanPainter$Bridge;", Cond.fieldLink RX11 78 "SpanPainter" "draft" "LSpanPainter$Plan;", Cond.classLink RX11 81 RX5, Cond.instantiable RX5 6, Cond.initialized RX5]
def wsL_law0_r4 : List Cond := [Cond.fieldLink RX11 86 "SpanPainter" "parser" "LSpanPainter$Parser;", Cond.instanceMethod yX0_init, Cond.code yX0_init cX0_init 1 none, Cond.methodLink RX0 3 objectInit, Cond.classLink RX0 9 RX7, Cond.fieldLink RX0 12 "SpanPainter$AutoPlanner" "candidates" "LSpanPainter$Ranking;", Cond.instanceMethod yX7_init, Cond.code yX7_init cX7_init 1 none, Cond.methodLink RX7 3 objectInit, Cond.fieldLink RX7 9 "SpanPainter$Ranking" "keys" "[I", Cond.instanceMethod yX8_init, Cond.code yX8_init cX8_init 1 none, Cond.methodLink RX8 3 objectInit, Cond.classLink RX8 9 RX7, Cond.fieldLink RX8 12 "SpanPainter$SafeSearch" "endangered" "LSpanPainter$Ranking;", Cond.instanceMethod yX2_init, Cond.code yX2_init cX2_init 1 none, Cond.methodLink RX2 1 objectInit, Cond.classLink RX2 13 "[[I", Cond.fieldLink RX2 15 "SpanPainter$History" "rows" "[[I", Cond.fieldLink RX2 18 "SpanPainter$History" "newest" "I", Cond.instanceMethod yX4_init, Cond.code yX4_init cX4_init 1 none, Cond.methodLink RX4 1 objectInit]
def wsL_law0_r5 : List Cond := [Cond.arrayClass .byte, Cond.fieldLink RX4 11 "SpanPainter$Output" "bytes" "[B", Cond.instanceMethod yX9_init, Cond.code yX9_init cX9_init 1 none, Cond.methodLink RX9 3 objectInit, Cond.fieldLink RX9 9 "SpanPainter$Text" "bytes" "[B", Cond.methodLink RX11 57 yX1_init, Cond.instanceMethod yX1_init, Cond.code yX1_init cX1_init 1 none, Cond.methodLink RX1 5 objectInit, Cond.fieldLink RX1 11 "SpanPainter$Bridge" "traffic" "[I", Cond.fieldLink RX1 15 "SpanPainter$Bridge" "laneOf" "[I", Cond.fieldLink RX1 18 "SpanPainter$Bridge" "area" "[I", Cond.fieldLink RX1 21 "SpanPainter$Bridge" "rust" "[I", Cond.fieldLink RX1 24 "SpanPainter$Bridge" "rate" "[I", Cond.fieldLink RX1 27 "SpanPainter$Bridge" "limit" "[I", Cond.fieldLink RX1 30 "SpanPainter$Bridge" "speed" "[I", Cond.fieldLink RX1 33 "SpanPainter$Bridge" "wage" "[I", Cond.fieldLink RX1 36 "SpanPainter$Bridge" "days" "[I", Cond.fieldLink RX1 39 "SpanPainter$Bridge" "closed" "[I", Cond.methodLink RX1 42 yX1_reset, Cond.instanceMethod yX1_reset, Cond.selects RX1 yX1_reset yX1_reset, Cond.code yX1_reset cX1_reset 1 none]
def wsL_law0_r6 : List Cond := [Cond.fieldLink RX1 45 "SpanPainter$Bridge" "years" "I", Cond.fieldLink RX1 49 "SpanPainter$Bridge" "shut" "I", Cond.fieldLink RX1 52 "SpanPainter$Bridge" "guard" "I", Cond.fieldLink RX1 55 "SpanPainter$Bridge" "laneCount" "I", Cond.fieldLink RX1 58 "SpanPainter$Bridge" "spanCount" "I", Cond.fieldLink RX1 61 "SpanPainter$Bridge" "gangCount" "I", Cond.methodLink RX1 64 yJ7_fill_53178, Cond.static yJ7_fill_53178, Cond.initialized RJ7, Cond.code yJ7_fill_53178 cJ7_fill_53178 4 none, Cond.methodLink RX11 60 yX6_init, Cond.instanceMethod yX6_init, Cond.code yX6_init cX6_init 2 none, Cond.methodLink RX6 3 objectInit, Cond.fieldLink RX6 11 "SpanPainter$Plan" "gangs" "[I", Cond.fieldLink RX6 15 "SpanPainter$Plan" "rusts" "[I", Cond.fieldLink RX6 18 "SpanPainter$Plan" "guards" "[I", Cond.fieldLink RX6 21 "SpanPainter$Plan" "bridge" "LSpanPainter$Bridge;", Cond.methodLink RX6 25 yJ7_fill_53178, Cond.methodLink RX11 83 yX5_init, Cond.instanceMethod yX5_init, Cond.code yX5_init cX5_init 4 none, Cond.methodLink RX5 3 objectInit, Cond.classLink RX5 9 RX3]
def wsL_law0_r7 : List Cond := [Cond.instantiable RX3 4, Cond.initialized RX3, Cond.fieldLink RX5 12 "SpanPainter$Parser" "names" "LSpanPainter$Names;", Cond.constant RX5 18 (-1000004), Cond.fieldLink RX5 19 "SpanPainter$Parser" "failedAt" "I", Cond.classLink RX5 23 RX10, Cond.instantiable RX10 7, Cond.initialized RX10, Cond.fieldLink RX5 28 "SpanPainter$Parser" "tokens" "LSpanPainter$Tokens;", Cond.fieldLink RX5 32 "SpanPainter$Parser" "bridge" "LSpanPainter$Bridge;", Cond.fieldLink RX5 36 "SpanPainter$Parser" "plan" "LSpanPainter$Plan;", Cond.instanceMethod yX3_init, Cond.code yX3_init cX3_init 1 none, Cond.methodLink RX3 3 objectInit, Cond.arrayClass .long, Cond.fieldLink RX3 11 "SpanPainter$Names" "words" "[J", Cond.fieldLink RX3 15 "SpanPainter$Names" "sorts" "[I", Cond.fieldLink RX3 19 "SpanPainter$Names" "numbers" "[I", Cond.methodLink RX5 25 yX10_init, Cond.instanceMethod yX10_init, Cond.code yX10_init cX10_init 2 none, Cond.methodLink RX10 1 objectInit, Cond.fieldLink RX10 7 "SpanPainter$Tokens" "text" "LSpanPainter$Text;", Cond.methodLink RL 140 yL_bridge]
def wsL_law0_r8 : List Cond := [Cond.instanceMethod yL_bridge, Cond.selects RL yL_bridge yL_bridge, Cond.code yL_bridge cL_bridge 3 (some (.object "java/lang/String")), Cond.fieldLink RL 84 "SpanPainterLaw" "shut" "I", Cond.fieldLink RL 87 "SpanPainterLaw" "guard" "I", Cond.fieldLink RL 90 "SpanPainterLaw" "lanes" "I", Cond.classLink RL 99 RJ4, Cond.instantiable RJ4 4, Cond.initialized RJ4, Cond.methodLink RL 78 yL_chosen, Cond.instanceMethod yL_chosen, Cond.selects RL yL_chosen yL_chosen, Cond.code yL_chosen cL_chosen 3 (some .int), Cond.fieldLink RL 66 "SpanPainterLaw" "at" "I", Cond.methodLink RL 70 yL_cell, Cond.static yL_cell, Cond.code yL_cell cL_cell 2 (some .int), Cond.methodLink RL 74 yL_among, Cond.static yL_among, Cond.code yL_among cL_among 3 (some .int), Cond.methodLink RL 101 yJ4_init_da8c8, Cond.instanceMethod yJ4_init_da8c8, Cond.code yJ4_init_da8c8 cJ4_init_da8c8 1 none, Cond.methodLink RJ4 1 yJ5_init_d00df]
def wsL_law0_r9 : List Cond := [Cond.instanceMethod yJ5_init_d00df, Cond.initialized RJ5, Cond.code yJ5_init_d00df cJ5_init_d00df 2 none, Cond.methodLink RJ5 3 objectInit, Cond.fieldLink RJ5 18 "java/lang/String" "COMPACT_STRINGS" "Z", Cond.fieldLink RJ5 15 "java/lang/AbstractStringBuilder" "value" "[B", Cond.fieldLink RJ5 22 "java/lang/AbstractStringBuilder" "coder" "B", Cond.methodLink RJ5 26 yJ2_newBytesFor_77867, Cond.static yJ2_newBytesFor_77867, Cond.initialized RJ2, Cond.code yJ2_newBytesFor_77867 cJ2_newBytesFor_77867 1 (some (.array .byte)), Cond.methodLink RJ2 11 yJ2_newBytesLength_0f7a4, Cond.static yJ2_newBytesLength_0f7a4, Cond.code yJ2_newBytesLength_0f7a4 cJ2_newBytesLength_0f7a4 1 (some .int), Cond.constant RJ2 20 (1073741823), Cond.methodLink RL 104 yJ4_append_15ec4, Cond.instanceMethod yJ4_append_15ec4, Cond.selects RJ4 yJ4_append_15ec4 yJ4_append_15ec4, Cond.code yJ4_append_15ec4 cJ4_append_15ec4 2 (some (.object "java/lang/StringBuilder")), Cond.methodLink RJ4 29 yJ5_append_cf1ce, Cond.sameMethod "java/lang/AbstractStringBuilder" "java/lang/AbstractStringBuilder" "append" "(Ljava/lang/String;)Ljava/lang/AbstractStringBuilder;", Cond.superclass RJ4 RJ5, Cond.instanceMethod yJ5_append_cf1ce, Cond.code yJ5_append_cf1ce cJ5_append_cf1ce 3 (some (.object "java/lang/AbstractStringBuilder"))]
def wsL_law0_r10 : List Cond := [Cond.fieldLink RJ5 79 "java/lang/AbstractStringBuilder" "count" "I", Cond.methodLink RJ5 204 ⟨"java/lang/AbstractStringBuilder", "appendNull", "()Ljava/lang/AbstractStringBuilder;"⟩, Cond.sameMethod "java/lang/AbstractStringBuilder" "java/lang/AbstractStringBuilder" "appendNull" "()Ljava/lang/AbstractStringBuilder;", Cond.selects RJ4 ⟨"java/lang/AbstractStringBuilder", "appendNull", "()Ljava/lang/AbstractStringBuilder;"⟩ yJ5_appendNull_278bc, Cond.instanceMethod yJ5_appendNull_278bc, Cond.code yJ5_appendNull_278bc cJ5_appendNull_278bc 3 (some (.object "java/lang/AbstractStringBuilder")), Cond.methodLink RJ5 100 ⟨"java/lang/AbstractStringBuilder", "ensureCapacityInternal", "(I)V"⟩, Cond.sameMethod "java/lang/AbstractStringBuilder" "java/lang/AbstractStringBuilder" "ensureCapacityInternal" "(I)V", Cond.selects RJ4 ⟨"java/lang/AbstractStringBuilder", "ensureCapacityInternal", "(I)V"⟩ yJ5_ensureCapacityInternal_d00df, Cond.instanceMethod yJ5_ensureCapacityInternal_d00df, Cond.code yJ5_ensureCapacityInternal_d00df cJ5_ensureCapacityInternal_d00df 3 none, Cond.methodLink RJ5 104 ⟨"java/lang/AbstractStringBuilder", "newCapacity", "(I)I"⟩, Cond.sameMethod "java/lang/AbstractStringBuilder" "java/lang/AbstractStringBuilder" "newCapacity" "(I)I", Cond.selects RJ4 ⟨"java/lang/AbstractStringBuilder", "newCapacity", "(I)I"⟩ yJ5_newCapacity_0f7a4, Cond.instanceMethod yJ5_newCapacity_0f7a4, Cond.code yJ5_newCapacity_0f7a4 cJ5_newCapacity_0f7a4 6 (some .int), Cond.constant RJ5 39 (2147483647), Cond.methodLink RJ5 114 yJ8_newLength_cabcc, Cond.static yJ8_newLength_cabcc, Cond.initialized RJ8, Cond.code yJ8_newLength_cabcc cJ8_newLength_cabcc 4 (some .int), Cond.methodLink RJ8 194 Lib.Math.max.name, Cond.static Lib.Math.max.name, Cond.initialized "java/lang/Math"]
def wsL_law0_r11 : List Cond := [Cond.code Lib.Math.max.name Lib.Math.max.code 2 (some .int), Cond.constant RJ8 200 (2147483639), Cond.methodLink RJ8 201 yJ8_hugeLength_7cf53, Cond.static yJ8_hugeLength_7cf53, Cond.code yJ8_hugeLength_7cf53 cJ8_hugeLength_7cf53 3 (some .int), Cond.methodLink RJ5 108 yJ7_copyOf_9075b, Cond.static yJ7_copyOf_9075b, Cond.code yJ7_copyOf_9075b cJ7_copyOf_9075b 3 (some (.array .byte)), Cond.methodLink RJ7 310 ⟨"[B", "clone", "()Ljava/lang/Object;"⟩, Cond.sameMethod "[B" "java/lang/Object" "clone" "()Ljava/lang/Object;", Cond.native ⟨"java/lang/Object", "clone", "()Ljava/lang/Object;"⟩, Cond.instanceMethod ⟨"java/lang/Object", "clone", "()Ljava/lang/Object;"⟩, Cond.selects "[B" ⟨"[B", "clone", "()Ljava/lang/Object;"⟩ ⟨"java/lang/Object", "clone", "()Ljava/lang/Object;"⟩, Cond.classLink RJ7 311 "[B", Cond.methodLink RJ7 304 Lib.Math.min.name, Cond.static Lib.Math.min.name, Cond.code Lib.Math.min.name Lib.Math.min.code 2 (some .int), Cond.methodLink RJ7 150 arraycopyName, Cond.native arraycopyName, Cond.static arraycopyName, Cond.initialized "java/lang/System", Cond.methodLink RJ5 83 ⟨"java/lang/AbstractStringBuilder", "isLatin1", "()Z"⟩, Cond.sameMethod "java/lang/AbstractStringBuilder" "java/lang/AbstractStringBuilder" "isLatin1" "()Z", Cond.selects RJ4 ⟨"java/lang/AbstractStringBuilder", "isLatin1", "()Z"⟩ yJ5_isLatin1_aae02]
def wsL_law0_r12 : List Cond := [Cond.instanceMethod yJ5_isLatin1_aae02, Cond.code yJ5_isLatin1_aae02 cJ5_isLatin1_aae02 1 (some .boolean), Cond.methodLink RJ5 226 yJ2_putCharsAt_cd4e5, Cond.static yJ2_putCharsAt_cd4e5, Cond.code yJ2_putCharsAt_cd4e5 cJ2_putCharsAt_cd4e5 7 (some .int), Cond.fieldLink RJ2 44 "java/lang/StringUTF16" "$assertionsDisabled" "Z", Cond.methodLink RJ2 96 yJ2_checkBoundsBeginEnd_d044e, Cond.static yJ2_checkBoundsBeginEnd_d044e, Cond.code yJ2_checkBoundsBeginEnd_d044e cJ2_checkBoundsBeginEnd_d044e 3 none, Cond.methodLink RJ2 48 yJ2_length_9d52b, Cond.static yJ2_length_9d52b, Cond.code yJ2_length_9d52b cJ2_length_9d52b 1 (some .int), Cond.methodLink RJ2 241 yJ0_checkBoundsBeginEnd_23922, Cond.static yJ0_checkBoundsBeginEnd_23922, Cond.initialized RJ0, Cond.code yJ0_checkBoundsBeginEnd_23922 cJ0_checkBoundsBeginEnd_23922 3 none, Cond.fieldLink RJ0 1053 "jdk/internal/util/Preconditions" "SIOOBE_FORMATTER" "Ljava/util/function/BiFunction;", Cond.methodLink RJ0 1062 yJ3_checkFromToIndex_8c36e, Cond.static yJ3_checkFromToIndex_8c36e, Cond.initialized RJ3, Cond.code yJ3_checkFromToIndex_8c36e cJ3_checkFromToIndex_8c36e 4 (some .int), Cond.methodLink RJ2 111 yJ2_putChar_b72d1, Cond.static yJ2_putChar_b72d1, Cond.code yJ2_putChar_b72d1 cJ2_putChar_b72d1 3 none]
def wsL_law0_r13 : List Cond := [Cond.fieldLink RJ2 59 "java/lang/StringUTF16" "HI_BYTE_SHIFT" "I", Cond.fieldLink RJ2 63 "java/lang/StringUTF16" "LO_BYTE_SHIFT" "I", Cond.methodLink RJ5 32 yJ0_length_8abf5, Cond.instanceMethod yJ0_length_8abf5, Cond.selects RJ0 yJ0_length_8abf5 yJ0_length_8abf5, Cond.code yJ0_length_8abf5 cJ0_length_8abf5 1 (some .int), Cond.fieldLink RJ0 9 "java/lang/String" "value" "[B", Cond.methodLink RJ0 335 yJ0_coder_7d493, Cond.instanceMethod yJ0_coder_7d493, Cond.selects RJ0 yJ0_coder_7d493 yJ0_coder_7d493, Cond.code yJ0_coder_7d493 cJ0_coder_7d493 1 (some .byte), Cond.fieldLink RJ0 38 "java/lang/String" "COMPACT_STRINGS" "Z", Cond.fieldLink RJ0 15 "java/lang/String" "coder" "B", Cond.methodLink RJ5 208 ⟨"java/lang/AbstractStringBuilder", "putStringAt", "(ILjava/lang/String;)V"⟩, Cond.sameMethod "java/lang/AbstractStringBuilder" "java/lang/AbstractStringBuilder" "putStringAt" "(ILjava/lang/String;)V", Cond.selects RJ4 ⟨"java/lang/AbstractStringBuilder", "putStringAt", "(ILjava/lang/String;)V"⟩ yJ5_putStringAt_47b60, Cond.instanceMethod yJ5_putStringAt_47b60, Cond.code yJ5_putStringAt_47b60 cJ5_putStringAt_47b60 3 none, Cond.methodLink RJ5 397 ⟨"java/lang/AbstractStringBuilder", "inflateIfNeededFor", "(Ljava/lang/String;)V"⟩, Cond.sameMethod "java/lang/AbstractStringBuilder" "java/lang/AbstractStringBuilder" "inflateIfNeededFor" "(Ljava/lang/String;)V", Cond.selects RJ4 ⟨"java/lang/AbstractStringBuilder", "inflateIfNeededFor", "(Ljava/lang/String;)V"⟩ yJ5_inflateIfNeededFor_a7421, Cond.instanceMethod yJ5_inflateIfNeededFor_a7421, Cond.code yJ5_inflateIfNeededFor_a7421 cJ5_inflateIfNeededFor_a7421 2 none, Cond.methodLink RJ5 40 yJ0_coder_7d493]
def wsL_law0_r14 : List Cond := [Cond.methodLink RJ5 195 ⟨"java/lang/AbstractStringBuilder", "inflate", "()V"⟩, Cond.sameMethod "java/lang/AbstractStringBuilder" "java/lang/AbstractStringBuilder" "inflate" "()V", Cond.selects RJ4 ⟨"java/lang/AbstractStringBuilder", "inflate", "()V"⟩ yJ5_inflate_da8c8, Cond.instanceMethod yJ5_inflate_da8c8, Cond.code yJ5_inflate_da8c8 cJ5_inflate_da8c8 2 none, Cond.methodLink RJ5 125 yJ1_inflate_0e8fd, Cond.static yJ1_inflate_0e8fd, Cond.initialized RJ1, Cond.code yJ1_inflate_0e8fd cJ1_inflate_0e8fd 5 none, Cond.methodLink RJ1 240 yJ2_inflate_0e8fd, Cond.static yJ2_inflate_0e8fd, Cond.code yJ2_inflate_0e8fd cJ2_inflate_0e8fd 6 none, Cond.methodLink RJ2 173 yJ2_checkBoundsOffCount_d044e, Cond.static yJ2_checkBoundsOffCount_d044e, Cond.code yJ2_checkBoundsOffCount_d044e cJ2_checkBoundsOffCount_d044e 3 none, Cond.methodLink RJ2 419 yJ0_checkBoundsOffCount_cabcc, Cond.static yJ0_checkBoundsOffCount_cabcc, Cond.code yJ0_checkBoundsOffCount_cabcc cJ0_checkBoundsOffCount_cabcc 3 (some .int), Cond.methodLink RJ0 1065 yJ3_checkFromIndexSize_8c36e, Cond.static yJ3_checkFromIndexSize_8c36e, Cond.code yJ3_checkFromIndexSize_8c36e cJ3_checkFromIndexSize_8c36e 4 (some .int), Cond.methodLink RJ5 399 yJ0_getBytes_840e7, Cond.instanceMethod yJ0_getBytes_840e7, Cond.selects RJ0 yJ0_getBytes_840e7 yJ0_getBytes_840e7]
def wsL_law0_r15 : List Cond := [Cond.code yJ0_getBytes_840e7 cJ0_getBytes_840e7 4 none, Cond.methodLink RJ0 212 arraycopyName, Cond.methodLink RJ0 106 yJ1_inflate_0e8fd, Cond.methodLink RL 108 yJ4_append_bf812, Cond.instanceMethod yJ4_append_bf812, Cond.selects RJ4 yJ4_append_bf812 yJ4_append_bf812, Cond.code yJ4_append_bf812 cJ4_append_bf812 2 (some (.object "java/lang/StringBuilder")), Cond.methodLink RJ4 53 yJ5_append_c97b9, Cond.sameMethod "java/lang/AbstractStringBuilder" "java/lang/AbstractStringBuilder" "append" "(I)Ljava/lang/AbstractStringBuilder;", Cond.instanceMethod yJ5_append_c97b9, Cond.code yJ5_append_c97b9 cJ5_append_c97b9 4 (some (.object "java/lang/AbstractStringBuilder")), Cond.methodLink RJ5 245 yJ6_stringSize_0f7a4, Cond.static yJ6_stringSize_0f7a4, Cond.initialized RJ6, Cond.code yJ6_stringSize_0f7a4 cJ6_stringSize_0f7a4 4 (some .int), Cond.methodLink RJ5 248 yJ6_getChars_ba4f3, Cond.static yJ6_getChars_ba4f3, Cond.code yJ6_getChars_ba4f3 cJ6_getChars_ba4f3 7 (some .int), Cond.fieldLink RJ6 83 "java/lang/Integer" "DigitOnes" "[B", Cond.fieldLink RJ6 87 "java/lang/Integer" "DigitTens" "[B", Cond.methodLink RJ5 251 yJ2_getChars_46870, Cond.static yJ2_getChars_46870, Cond.code yJ2_getChars_46870 cJ2_getChars_46870 5 (some .int), Cond.methodLink RJ2 393 yJ2_getChars_ba4f3]
def wsL_law0_r16 : List Cond := [Cond.static yJ2_getChars_ba4f3, Cond.code yJ2_getChars_ba4f3 cJ2_getChars_ba4f3 7 (some .int), Cond.fieldLink RJ2 403 "java/lang/Integer" "DigitOnes" "[B", Cond.fieldLink RJ2 407 "java/lang/Integer" "DigitTens" "[B", Cond.methodLink RL 115 yJ4_toString_0e30d, Cond.instanceMethod yJ4_toString_0e30d, Cond.selects RJ4 yJ4_toString_0e30d yJ4_toString_0e30d, Cond.code yJ4_toString_0e30d cJ4_toString_0e30d 1 (some (.object "java/lang/String")), Cond.classLink RJ4 18 RJ0, Cond.instantiable RJ0 4, Cond.methodLink RJ4 137 yJ0_init_81219, Cond.instanceMethod yJ0_init_81219, Cond.code yJ0_init_81219 cJ0_init_81219 2 none, Cond.methodLink RJ0 489 yJ0_init_db425, Cond.instanceMethod yJ0_init_db425, Cond.code yJ0_init_db425 cJ0_init_db425 5 none, Cond.methodLink RJ0 1 objectInit, Cond.fieldLink RJ0 1048 "java/lang/AbstractStringBuilder" "maybeLatin1" "Z", Cond.methodLink RJ0 552 ⟨"java/lang/AbstractStringBuilder", "getValue", "()[B"⟩, Cond.sameMethod "java/lang/AbstractStringBuilder" "java/lang/AbstractStringBuilder" "getValue" "()[B", Cond.selects RJ4 ⟨"java/lang/AbstractStringBuilder", "getValue", "()[B"⟩ yJ5_getValue_6d5f1, Cond.instanceMethod yJ5_getValue_6d5f1, Cond.code yJ5_getValue_6d5f1 cJ5_getValue_6d5f1 1 (some (.array .byte)), Cond.methodLink RJ0 549 ⟨"java/lang/AbstractStringBuilder", "length", "()I"⟩]
def wsL_law0_r17 : List Cond := [Cond.sameMethod "java/lang/AbstractStringBuilder" "java/lang/AbstractStringBuilder" "length" "()I", Cond.instanceMethod ⟨"java/lang/AbstractStringBuilder", "length", "()I"⟩, Cond.selects RJ4 ⟨"java/lang/AbstractStringBuilder", "length", "()I"⟩ yJ4_length_8abf5, Cond.instanceMethod yJ4_length_8abf5, Cond.code yJ4_length_8abf5 cJ4_length_8abf5 1 (some .int), Cond.methodLink RJ4 343 yJ5_length_8abf5, Cond.instanceMethod yJ5_length_8abf5, Cond.code yJ5_length_8abf5 cJ5_length_8abf5 1 (some .int), Cond.methodLink RJ0 1047 ⟨"java/lang/AbstractStringBuilder", "isLatin1", "()Z"⟩, Cond.methodLink RJ0 54 yJ7_copyOfRange_39247, Cond.static yJ7_copyOfRange_39247, Cond.code yJ7_copyOfRange_39247 cJ7_copyOfRange_39247 3 (some (.array .byte)), Cond.methodLink RJ7 339 yJ7_copyOfRangeByte_39247, Cond.static yJ7_copyOfRangeByte_39247, Cond.code yJ7_copyOfRangeByte_39247 cJ7_copyOfRangeByte_39247 5 (some (.array .byte)), Cond.methodLink RJ7 343 yJ7_checkLength_df160, Cond.static yJ7_checkLength_df160, Cond.code yJ7_checkLength_df160 cJ7_checkLength_df160 2 none, Cond.methodLink RJ0 1051 yJ2_compress_39247, Cond.static yJ2_compress_39247, Cond.code yJ2_compress_39247 cJ2_compress_39247 6 (some (.array .byte)), Cond.methodLink RJ2 123 yJ2_compress_5af95, Cond.static yJ2_compress_5af95, Cond.code yJ2_compress_5af95 cJ2_compress_5af95 7 (some .int)]
def wsL_law0_r18 : List Cond := [Cond.methodLink RJ2 71 yJ2_getChar_3b067, Cond.static yJ2_getChar_3b067, Cond.code yJ2_getChar_3b067 cJ2_getChar_3b067 2 (some .char), Cond.methodLink RJ2 126 yJ7_copyOfRange_39247, Cond.methodLink RJ0 47 yJ2_coderFromArrayLen_85cad, Cond.static yJ2_coderFromArrayLen_85cad, Cond.code yJ2_coderFromArrayLen_85cad cJ2_coderFromArrayLen_85cad 2 (some .byte), Cond.methodLink RL 121 yJ4_append_cf468, Cond.instanceMethod yJ4_append_cf468, Cond.selects RJ4 yJ4_append_cf468 yJ4_append_cf468, Cond.code yJ4_append_cf468 cJ4_append_cf468 2 (some (.object "java/lang/StringBuilder")), Cond.methodLink RJ4 50 yJ5_append_3fe6f, Cond.sameMethod "java/lang/AbstractStringBuilder" "java/lang/AbstractStringBuilder" "append" "(C)Ljava/lang/AbstractStringBuilder;", Cond.instanceMethod yJ5_append_3fe6f, Cond.code yJ5_append_3fe6f cJ5_append_3fe6f 2 (some (.object "java/lang/AbstractStringBuilder")), Cond.methodLink RJ5 191 yJ1_canEncode_fc78d, Cond.static yJ1_canEncode_fc78d, Cond.code yJ1_canEncode_fc78d cJ1_canEncode_fc78d 1 (some .boolean), Cond.methodLink RJ5 197 yJ2_putCharSB_b72d1, Cond.static yJ2_putCharSB_b72d1, Cond.code yJ2_putCharSB_b72d1 cJ2_putCharSB_b72d1 3 none, Cond.methodLink RJ2 67 yJ2_checkIndex_2214a, Cond.static yJ2_checkIndex_2214a, Cond.code yJ2_checkIndex_2214a cJ2_checkIndex_2214a 2 none]
def wsL_law0_r19 : List Cond := [Cond.methodLink RJ2 414 yJ0_checkIndex_df160, Cond.static yJ0_checkIndex_df160, Cond.code yJ0_checkIndex_df160 cJ0_checkIndex_df160 2 none, Cond.methodLink RJ0 1059 yJ3_checkIndex_8e157, Cond.static yJ3_checkIndex_8e157, Cond.code yJ3_checkIndex_8e157 cJ3_checkIndex_8e157 3 (some .int), Cond.methodLink RL 124 yL_span, Cond.instanceMethod yL_span, Cond.selects RL yL_span yL_span, Cond.code yL_span cL_span 2 (some (.object "java/lang/String")), Cond.methodLink RL 143 yL_load, Cond.static yL_load, Cond.code yL_load cL_load 3 (some .int), Cond.methodLink RL 42 yJ0_length_8abf5, Cond.methodLink RL 52 yL_four, Cond.static yL_four, Cond.code yL_four cL_four 4 (some .int), Cond.methodLink RL 48 yJ0_charAt_5068e, Cond.instanceMethod yJ0_charAt_5068e, Cond.selects RJ0 yJ0_charAt_5068e yJ0_charAt_5068e, Cond.code yJ0_charAt_5068e cJ0_charAt_5068e 2 (some .char), Cond.methodLink RJ0 492 yJ0_isLatin1_aae02, Cond.instanceMethod yJ0_isLatin1_aae02, Cond.selects RJ0 yJ0_isLatin1_aae02 yJ0_isLatin1_aae02]
def wsL_law0_r20 : List Cond := [Cond.code yJ0_isLatin1_aae02 cJ0_isLatin1_aae02 1 (some .boolean), Cond.methodLink RJ0 495 yJ1_charAt_3b067, Cond.static yJ1_charAt_3b067, Cond.code yJ1_charAt_3b067 cJ1_charAt_3b067 2 (some .char), Cond.methodLink RJ1 9 yJ0_checkIndex_df160, Cond.methodLink RJ0 498 yJ2_charAt_3b067, Cond.static yJ2_charAt_3b067, Cond.code yJ2_charAt_3b067 cJ2_charAt_3b067 2 (some .char), Cond.methodLink RL 56 yX11_feed, Cond.instanceMethod yX11_feed, Cond.selects RX11 yX11_feed yX11_feed, Cond.code yX11_feed cX11_feed 6 (some .int), Cond.constant RX11 94 (-1000005), Cond.methodLink RX11 90 yX9_hasRoomFor, Cond.instanceMethod yX9_hasRoomFor, Cond.selects RX9 yX9_hasRoomFor yX9_hasRoomFor, Cond.code yX9_hasRoomFor cX9_hasRoomFor 2 (some .boolean), Cond.fieldLink RX9 15 "SpanPainter$Text" "size" "I", Cond.methodLink RX11 95 yX9_append, Cond.instanceMethod yX9_append, Cond.selects RX9 yX9_append yX9_append, Cond.code yX9_append cX9_append 3 none, Cond.methodLink RX11 99 yX9_size, Cond.instanceMethod yX9_size]
def wsL_law0_r21 : List Cond := [Cond.selects RX9 yX9_size yX9_size, Cond.code yX9_size cX9_size 1 (some .int), Cond.methodLink RL 62 yX11_load, Cond.instanceMethod yX11_load, Cond.selects RX11 yX11_load yX11_load, Cond.code yX11_load cX11_load 4 (some .int), Cond.classLink RX11 103 "java/lang/IllegalArgumentException", Cond.initialized "java/lang/IllegalArgumentException", Cond.constant RX11 123 (-1000006), Cond.methodLink RX11 110 yX5_read, Cond.instanceMethod yX5_read, Cond.selects RX5 yX5_read yX5_read, Cond.code yX5_read cX5_read 6 (some .boolean), Cond.fieldLink RX5 40 "SpanPainter$Parser" "failure" "I", Cond.methodLink RX5 43 yX1_reset, Cond.methodLink RX5 48 yX6_start, Cond.instanceMethod yX6_start, Cond.selects RX6 yX6_start yX6_start, Cond.code yX6_start cX6_start 2 none, Cond.methodLink RX6 31 yX6_followAll, Cond.instanceMethod yX6_followAll, Cond.selects RX6 yX6_followAll yX6_followAll, Cond.code yX6_followAll cX6_followAll 2 none, Cond.methodLink RX6 34 yX6_follow]
def wsL_law0_r22 : List Cond := [Cond.instanceMethod yX6_follow, Cond.selects RX6 yX6_follow yX6_follow, Cond.code yX6_follow cX6_follow 6 none, Cond.methodLink RX6 66 Lib.Math.min.name, Cond.methodLink RX6 56 yX6_isPainted, Cond.instanceMethod yX6_isPainted, Cond.selects RX6 yX6_isPainted yX6_isPainted, Cond.code yX6_isPainted cX6_isPainted 3 (some .boolean), Cond.methodLink RX5 54 yX3_clear, Cond.instanceMethod yX3_clear, Cond.selects RX3 yX3_clear yX3_clear, Cond.code yX3_clear cX3_clear 1 none, Cond.fieldLink RX3 22 "SpanPainter$Names" "size" "I", Cond.methodLink RX5 57 yX10_begin, Cond.instanceMethod yX10_begin, Cond.selects RX10 yX10_begin yX10_begin, Cond.code yX10_begin cX10_begin 2 none, Cond.methodLink RX10 19 Lib.Math.min.name, Cond.fieldLink RX10 25 "SpanPainter$Tokens" "length" "I", Cond.fieldLink RX10 28 "SpanPainter$Tokens" "start" "I", Cond.fieldLink RX10 31 "SpanPainter$Tokens" "end" "I", Cond.fieldLink RX10 34 "SpanPainter$Tokens" "kind" "I", Cond.methodLink RX5 61 yX10_next, Cond.instanceMethod yX10_next]
def wsL_law0_r23 : List Cond := [Cond.selects RX10 yX10_next yX10_next, Cond.code yX10_next cX10_next 1 none, Cond.methodLink RX10 41 yX10_takeLetters, Cond.instanceMethod yX10_takeLetters, Cond.selects RX10 yX10_takeLetters yX10_takeLetters, Cond.code yX10_takeLetters cX10_takeLetters 1 none, Cond.fieldLink RX10 47 "SpanPainter$Tokens" "word" "J", Cond.methodLink RX10 44 yX10_takeDigits, Cond.instanceMethod yX10_takeDigits, Cond.selects RX10 yX10_takeDigits yX10_takeDigits, Cond.code yX10_takeDigits cX10_takeDigits 1 none, Cond.fieldLink RX10 51 "SpanPainter$Tokens" "number" "I", Cond.methodLink RX5 67 yX5_readStatement, Cond.instanceMethod yX5_readStatement, Cond.selects RX5 yX5_readStatement yX5_readStatement, Cond.code yX5_readStatement cX5_readStatement 4 (some .boolean), Cond.constantLong RX5 84 (108243533981541), Cond.constantLong RX5 93 (1818324581), Cond.constantLong RX5 101 (1936744814), Cond.constantLong RX5 109 (1734438503), Cond.constantLong RX5 117 (33606991467799922), Cond.constantLong RX5 122 (109317377451364), Cond.constantLong RX5 127 (482670636660), Cond.methodLink RX5 76 yX5_failOnToken]
def wsL_law0_r24 : List Cond := [Cond.instanceMethod yX5_failOnToken, Cond.selects RX5 yX5_failOnToken yX5_failOnToken, Cond.code yX5_failOnToken cX5_failOnToken 1 (some .boolean), Cond.methodLink RX5 86 yX5_readBridge, Cond.instanceMethod yX5_readBridge, Cond.selects RX5 yX5_readBridge yX5_readBridge, Cond.code yX5_readBridge cX5_readBridge 4 (some .boolean), Cond.methodLink RX5 132 yX5_number, Cond.instanceMethod yX5_number, Cond.selects RX5 yX5_number yX5_number, Cond.code yX5_number cX5_number 3 (some .int), Cond.methodLink RX5 89 yX5_fail, Cond.instanceMethod yX5_fail, Cond.selects RX5 yX5_fail yX5_fail, Cond.code yX5_fail cX5_fail 2 (some .boolean), Cond.methodLink RX5 136 yX5_semicolon, Cond.instanceMethod yX5_semicolon, Cond.selects RX5 yX5_semicolon yX5_semicolon, Cond.code yX5_semicolon cX5_semicolon 1 (some .boolean), Cond.methodLink RX5 98 yX5_readLane, Cond.instanceMethod yX5_readLane, Cond.selects RX5 yX5_readLane yX5_readLane, Cond.code yX5_readLane cX5_readLane 4 (some .boolean), Cond.constantLong RX5 152 (-2)]
def wsL_law0_r25 : List Cond := [Cond.methodLink RX5 148 yX5_newName, Cond.instanceMethod yX5_newName, Cond.selects RX5 yX5_newName yX5_newName, Cond.code yX5_newName cX5_newName 1 (some .long), Cond.methodLink RX5 194 yX5_isReserved, Cond.static yX5_isReserved, Cond.code yX5_isReserved cX5_isReserved 2 (some .boolean), Cond.constantLong RX5 204 (1852796517), Cond.methodLink RX5 198 yX3_isDeclared, Cond.instanceMethod yX3_isDeclared, Cond.selects RX3 yX3_isDeclared yX3_isDeclared, Cond.code yX3_isDeclared cX3_isDeclared 4 (some .boolean), Cond.methodLink RX5 154 yX3_add, Cond.instanceMethod yX3_add, Cond.selects RX3 yX3_add yX3_add, Cond.code yX3_add cX3_add 5 none, Cond.methodLink RX5 158 yX1_addLane, Cond.instanceMethod yX1_addLane, Cond.selects RX1 yX1_addLane yX1_addLane, Cond.code yX1_addLane cX1_addLane 2 none, Cond.methodLink RX5 106 yX5_readSpan, Cond.instanceMethod yX5_readSpan, Cond.selects RX5 yX5_readSpan yX5_readSpan, Cond.code yX5_readSpan cX5_readSpan 8 (some .boolean)]
def wsL_law0_r26 : List Cond := [Cond.methodLink RX5 161 yX5_laneOrNone, Cond.instanceMethod yX5_laneOrNone, Cond.selects RX5 yX5_laneOrNone yX5_laneOrNone, Cond.code yX5_laneOrNone cX5_laneOrNone 1 (some .int), Cond.methodLink RX5 201 yX5_thisName, Cond.instanceMethod yX5_thisName, Cond.selects RX5 yX5_thisName yX5_thisName, Cond.code yX5_thisName cX5_thisName 3 (some .int), Cond.methodLink RX5 206 yX3_numberOf, Cond.instanceMethod yX3_numberOf, Cond.selects RX3 yX3_numberOf yX3_numberOf, Cond.code yX3_numberOf cX3_numberOf 5 (some .int), Cond.methodLink RX5 165 yX1_addSpan, Cond.instanceMethod yX1_addSpan, Cond.selects RX1 yX1_addSpan yX1_addSpan, Cond.code yX1_addSpan cX1_addSpan 6 none, Cond.methodLink RX5 114 yX5_readGang, Cond.instanceMethod yX5_readGang, Cond.selects RX5 yX5_readGang yX5_readGang, Cond.code yX5_readGang cX5_readGang 5 (some .boolean), Cond.methodLink RX5 169 yX1_addGang, Cond.instanceMethod yX1_addGang, Cond.selects RX1 yX1_addGang yX1_addGang, Cond.code yX1_addGang cX1_addGang 3 none]
def wsL_law0_r27 : List Cond := [Cond.methodLink RX5 119 yX5_readWeather, Cond.instanceMethod yX5_readWeather, Cond.selects RX5 yX5_readWeather yX5_readWeather, Cond.code yX5_readWeather cX5_readWeather 3 (some .boolean), Cond.methodLink RX5 124 yX5_readClosed, Cond.instanceMethod yX5_readClosed, Cond.selects RX5 yX5_readClosed yX5_readClosed, Cond.code yX5_readClosed cX5_readClosed 3 (some .boolean), Cond.methodLink RX5 177 yX5_knownName, Cond.instanceMethod yX5_knownName, Cond.selects RX5 yX5_knownName yX5_knownName, Cond.code yX5_knownName cX5_knownName 2 (some .int), Cond.methodLink RX5 129 yX5_readPainting, Cond.instanceMethod yX5_readPainting, Cond.selects RX5 yX5_readPainting yX5_readPainting, Cond.code yX5_readPainting cX5_readPainting 4 (some .boolean), Cond.methodLink RX5 184 yX6_isPainted, Cond.methodLink RX5 188 yX6_put, Cond.instanceMethod yX6_put, Cond.selects RX6 yX6_put yX6_put, Cond.code yX6_put cX6_put 4 none, Cond.methodLink RX5 71 yX6_followAll, Cond.methodLink RX11 114 yX5_failureKind, Cond.instanceMethod yX5_failureKind]
def wsL_law0_r28 : List Cond := [Cond.selects RX5 yX5_failureKind yX5_failureKind, Cond.code yX5_failureKind cX5_failureKind 1 (some .int), Cond.methodLink RX11 117 yX5_failurePosition, Cond.instanceMethod yX5_failurePosition, Cond.selects RX5 yX5_failurePosition yX5_failurePosition, Cond.code yX5_failurePosition cX5_failurePosition 1 (some .int), Cond.methodLink RX11 120 yX9_clear, Cond.instanceMethod yX9_clear, Cond.selects RX9 yX9_clear yX9_clear, Cond.code yX9_clear cX9_clear 1 none, Cond.methodLink RX11 124 yX11_takeDraft, Cond.instanceMethod yX11_takeDraft, Cond.selects RX11 yX11_takeDraft yX11_takeDraft, Cond.code yX11_takeDraft cX11_takeDraft 2 none, Cond.methodLink RX11 127 yX2_clear, Cond.instanceMethod yX2_clear, Cond.selects RX2 yX2_clear yX2_clear, Cond.code yX2_clear cX2_clear 1 none, Cond.fieldLink RX2 22 "SpanPainter$History" "size" "I", Cond.methodLink RL 146 yX11_errorKind, Cond.instanceMethod yX11_errorKind, Cond.selects RX11 yX11_errorKind yX11_errorKind, Cond.code yX11_errorKind cX11_errorKind 1 (some .int), Cond.methodLink RL 149 yX11_paintings]
def wsL_law0_r29 : List Cond := [Cond.instanceMethod yX11_paintings, Cond.selects RX11 yX11_paintings yX11_paintings, Cond.code yX11_paintings cX11_paintings 1 (some .int), Cond.methodLink RX11 208 yX6_countPaintings, Cond.instanceMethod yX6_countPaintings, Cond.selects RX6 yX6_countPaintings yX6_countPaintings, Cond.code yX6_countPaintings cX6_countPaintings 3 (some .int), Cond.methodLink RL 152 yJ7_fill_53178, Cond.methodLink RL 158 yL_refused, Cond.instanceMethod yL_refused, Cond.selects RL yL_refused yL_refused, Cond.code yL_refused cL_refused 7 (some .int), Cond.arrayClass .boolean, Cond.methodLink RL 202 yL_load_, Cond.instanceMethod yL_load_, Cond.selects RL yL_load_ yL_load_, Cond.code yL_load_ cL_load_ 5 (some .int), Cond.methodLink RL 199 yL_effort, Cond.instanceMethod yL_effort, Cond.selects RL yL_effort yL_effort, Cond.code yL_effort cL_effort 3 (some .int), Cond.methodLink RL 196 yL_begin, Cond.instanceMethod yL_begin, Cond.selects RL yL_begin yL_begin]
def wsL_law0_r30 : List Cond := [Cond.code yL_begin cL_begin 3 (some .int), Cond.fieldLink RL 185 "SpanPainterLaw" "left" "I", Cond.methodLink RL 193 yL_end, Cond.instanceMethod yL_end, Cond.selects RL yL_end yL_end, Cond.code yL_end cL_end 5 (some .int), Cond.methodLink RL 188 Lib.Math.min.name, Cond.methodLink RL 162 yX11_refusal, Cond.instanceMethod yX11_refusal, Cond.selects RX11 yX11_refusal yX11_refusal, Cond.code yX11_refusal cX11_refusal 4 (some .int), Cond.methodLink RX11 134 yX11_checkYear, Cond.instanceMethod yX11_checkYear, Cond.selects RX11 yX11_checkYear yX11_checkYear, Cond.code yX11_checkYear cX11_checkYear 2 none, Cond.classLink RX11 162 "java/lang/IndexOutOfBoundsException", Cond.initialized "java/lang/IndexOutOfBoundsException", Cond.methodLink RX11 131 yX11_checkSpan, Cond.instanceMethod yX11_checkSpan, Cond.selects RX11 yX11_checkSpan yX11_checkSpan, Cond.code yX11_checkSpan cX11_checkSpan 2 none, Cond.methodLink RX11 190 yX11_checkGang, Cond.instanceMethod yX11_checkGang, Cond.selects RX11 yX11_checkGang yX11_checkGang]
def wsL_law0_r31 : List Cond := [Cond.code yX11_checkGang cX11_checkGang 2 none, Cond.methodLink RX11 243 yX6_reasonAgainst, Cond.instanceMethod yX6_reasonAgainst, Cond.selects RX6 yX6_reasonAgainst yX6_reasonAgainst, Cond.code yX6_reasonAgainst cX6_reasonAgainst 6 (some .int), Cond.methodLink RX6 128 yX1_isClosed, Cond.instanceMethod yX1_isClosed, Cond.selects RX1 yX1_isClosed yX1_isClosed, Cond.code yX1_isClosed cX1_isClosed 3 (some .boolean), Cond.methodLink RX6 131 yX6_shutLanes, Cond.instanceMethod yX6_shutLanes, Cond.selects RX6 yX6_shutLanes yX6_shutLanes, Cond.code yX6_shutLanes cX6_shutLanes 4 (some .int), Cond.methodLink RX6 134 yJ6_bitCount_0f7a4, Cond.static yJ6_bitCount_0f7a4, Cond.code yJ6_bitCount_0f7a4 cJ6_bitCount_0f7a4 1 (some .int), Cond.constant RJ6 265 (1431655765), Cond.constant RJ6 266 (858993459), Cond.constant RJ6 267 (252645135), Cond.methodLink RX6 116 yX6_gangLoad, Cond.instanceMethod yX6_gangLoad, Cond.selects RX6 yX6_gangLoad yX6_gangLoad, Cond.code yX6_gangLoad cX6_gangLoad 5 (some .int), Cond.methodLink RX6 86 yX6_painter]
def wsL_law0_r32 : List Cond := [Cond.instanceMethod yX6_painter, Cond.selects RX6 yX6_painter yX6_painter, Cond.code yX6_painter cX6_painter 3 (some .int), Cond.methodLink RX6 89 yX6_spanEffort, Cond.instanceMethod yX6_spanEffort, Cond.selects RX6 yX6_spanEffort yX6_spanEffort, Cond.code yX6_spanEffort cX6_spanEffort 3 (some .int), Cond.methodLink RX6 119 yX1_gangCapacity, Cond.instanceMethod yX1_gangCapacity, Cond.selects RX1 yX1_gangCapacity yX1_gangCapacity, Cond.code yX1_gangCapacity cX1_gangCapacity 3 (some .int), Cond.methodLink RL 165 yX11_paint, Cond.instanceMethod yX11_paint, Cond.selects RX11 yX11_paint yX11_paint, Cond.code yX11_paint cX11_paint 4 (some .int), Cond.constant RX11 253 (-1000007), Cond.methodLink RX11 254 yX11_remember, Cond.instanceMethod yX11_remember, Cond.selects RX11 yX11_remember yX11_remember, Cond.code yX11_remember cX11_remember 1 none, Cond.methodLink RX11 345 yX2_keep, Cond.instanceMethod yX2_keep, Cond.selects RX2 yX2_keep yX2_keep, Cond.code yX2_keep cX2_keep 3 none]
def wsL_law0_r33 : List Cond := [Cond.methodLink RX2 30 Lib.Math.min.name, Cond.methodLink RX2 25 yX1_saveTo, Cond.instanceMethod yX1_saveTo, Cond.selects RX1 yX1_saveTo yX1_saveTo, Cond.code yX1_saveTo cX1_saveTo 2 none, Cond.methodLink RX1 70 arraycopyName, Cond.methodLink RX2 29 yX6_saveTo, Cond.instanceMethod yX6_saveTo, Cond.selects RX6 yX6_saveTo yX6_saveTo, Cond.code yX6_saveTo cX6_saveTo 2 none, Cond.methodLink RX6 40 arraycopyName, Cond.methodLink RX11 257 yX6_put, Cond.methodLink RX11 151 yX6_countPast, Cond.instanceMethod yX6_countPast, Cond.selects RX6 yX6_countPast yX6_countPast, Cond.code yX6_countPast cX6_countPast 3 (some .int), Cond.constant RX6 78 (-1000004), Cond.methodLink RX6 79 yX6_firstPast, Cond.instanceMethod yX6_firstPast, Cond.selects RX6 yX6_firstPast yX6_firstPast, Cond.code yX6_firstPast cX6_firstPast 3 (some .int), Cond.methodLink RX6 75 yX6_isPast, Cond.instanceMethod yX6_isPast, Cond.selects RX6 yX6_isPast yX6_isPast]
def wsL_law0_r34 : List Cond := [Cond.code yX6_isPast cX6_isPast 3 (some .boolean), Cond.methodLink RL 168 yL_isSame, Cond.instanceMethod yL_isSame, Cond.selects RL yL_isSame yL_isSame, Cond.code yL_isSame cL_isSame 5 (some .boolean), Cond.methodLink RL 204 yX11_rustAfter, Cond.instanceMethod yX11_rustAfter, Cond.selects RX11 yX11_rustAfter yX11_rustAfter, Cond.code yX11_rustAfter cX11_rustAfter 3 (some .int), Cond.methodLink RX11 141 yX6_rustAtEnd, Cond.instanceMethod yX6_rustAtEnd, Cond.selects RX6 yX6_rustAtEnd yX6_rustAtEnd, Cond.code yX6_rustAtEnd cX6_rustAtEnd 3 (some .int), Cond.methodLink RL 207 yX11_rustBefore, Cond.instanceMethod yX11_rustBefore, Cond.selects RX11 yX11_rustBefore yX11_rustBefore, Cond.code yX11_rustBefore cX11_rustBefore 3 (some .int), Cond.methodLink RX11 137 yX6_rustAtStart, Cond.instanceMethod yX6_rustAtStart, Cond.selects RX6 yX6_rustAtStart yX6_rustAtStart, Cond.code yX6_rustAtStart cX6_rustAtStart 3 (some .int), Cond.methodLink RL 210 yX11_guardLeft, Cond.instanceMethod yX11_guardLeft, Cond.selects RX11 yX11_guardLeft yX11_guardLeft]
def wsL_law0_r35 : List Cond := [Cond.code yX11_guardLeft cX11_guardLeft 3 (some .int), Cond.methodLink RX11 144 yX6_guardAtStart, Cond.instanceMethod yX6_guardAtStart, Cond.selects RX6 yX6_guardAtStart yX6_guardAtStart, Cond.code yX6_guardAtStart cX6_guardAtStart 3 (some .int), Cond.methodLink RL 213 yX11_effort, Cond.instanceMethod yX11_effort, Cond.selects RX11 yX11_effort yX11_effort, Cond.code yX11_effort cX11_effort 3 (some .int), Cond.methodLink RX11 187 yX6_spanEffort, Cond.methodLink RL 180 yX11_pastYear, Cond.instanceMethod yX11_pastYear, Cond.selects RX11 yX11_pastYear yX11_pastYear, Cond.code yX11_pastYear cX11_pastYear 2 (some .int), Cond.methodLink RX11 147 yX6_firstPast, Cond.methodLink RL 214 yX11_loadOf, Cond.instanceMethod yX11_loadOf, Cond.selects RX11 yX11_loadOf yX11_loadOf, Cond.code yX11_loadOf cX11_loadOf 3 (some .int), Cond.methodLink RX11 196 yX6_gangLoad, Cond.methodLink RL 217 yX11_capacity, Cond.instanceMethod yX11_capacity, Cond.selects RX11 yX11_capacity yX11_capacity, Cond.code yX11_capacity cX11_capacity 3 (some .int)]
def wsL_law0_r36 : List Cond := [Cond.methodLink RX11 193 yX1_gangCapacity, Cond.methodLink RL 172 yX11_undo, Cond.instanceMethod yX11_undo, Cond.selects RX11 yX11_undo yX11_undo, Cond.code yX11_undo cX11_undo 1 (some .int), Cond.methodLink RX11 291 yX2_isEmpty, Cond.instanceMethod yX2_isEmpty, Cond.selects RX2 yX2_isEmpty yX2_isEmpty, Cond.code yX2_isEmpty cX2_isEmpty 1 (some .boolean), Cond.methodLink RX11 295 yX2_takeBack, Cond.instanceMethod yX2_takeBack, Cond.selects RX2 yX2_takeBack yX2_takeBack, Cond.code yX2_takeBack cX2_takeBack 3 none, Cond.methodLink RX2 36 yX1_restoreFrom, Cond.instanceMethod yX1_restoreFrom, Cond.selects RX1 yX1_restoreFrom yX1_restoreFrom, Cond.code yX1_restoreFrom cX1_restoreFrom 2 none, Cond.methodLink RX2 39 yX6_restoreFrom, Cond.instanceMethod yX6_restoreFrom, Cond.selects RX6 yX6_restoreFrom yX6_restoreFrom, Cond.code yX6_restoreFrom cX6_restoreFrom 2 none, Cond.methodLink RX11 299 yX2_size, Cond.instanceMethod yX2_size, Cond.selects RX2 yX2_size yX2_size]
def wsL_law0_r37 : List Cond := [Cond.code yX2_size cX2_size 1 (some .int), Cond.methodLink RL 176 yL_isRefused, Cond.static yL_isRefused, Cond.codeWith yL_isRefused cL_isRefused 3 (some .boolean) [(0, 14, 15, 183)], Cond.classLink RL 183 "java/lang/IndexOutOfBoundsException"]
def wsL_law0 : List Cond := (wsL_law0_r1 ++ (wsL_law0_r2 ++ (wsL_law0_r3 ++ (wsL_law0_r4 ++ (wsL_law0_r5 ++ (wsL_law0_r6 ++ (wsL_law0_r7 ++ (wsL_law0_r8 ++ (wsL_law0_r9 ++ (wsL_law0_r10 ++ (wsL_law0_r11 ++ (wsL_law0_r12 ++ (wsL_law0_r13 ++ (wsL_law0_r14 ++ (wsL_law0_r15 ++ (wsL_law0_r16 ++ (wsL_law0_r17 ++ (wsL_law0_r18 ++ (wsL_law0_r19 ++ (wsL_law0_r20 ++ (wsL_law0_r21 ++ (wsL_law0_r22 ++ (wsL_law0_r23 ++ (wsL_law0_r24 ++ (wsL_law0_r25 ++ (wsL_law0_r26 ++ (wsL_law0_r27 ++ (wsL_law0_r28 ++ (wsL_law0_r29 ++ (wsL_law0_r30 ++ (wsL_law0_r31 ++ (wsL_law0_r32 ++ (wsL_law0_r33 ++ (wsL_law0_r34 ++ (wsL_law0_r35 ++ (wsL_law0_r36 ++ wsL_law0_r37)))))))))))))))))))))))))))))))))))) ++ wsL0 ++ wsX110 ++ wsX00 ++ wsX80 ++ wsX70 ++ wsX20 ++ wsX40 ++ wsX90 ++ wsX10 ++ wsX60 ++ wsX50 ++ wsX30 ++ wsX100 ++ wsJ40 ++ wsJ00 ++ ([] : List Cond)
def wsL_law : List Cond := wsL_law0 ++ (vx_atS RX11 107 "java/lang/IllegalArgumentException" ["java/lang/RuntimeException", "java/lang/Exception"]).filter goodWord ++ (vx_atS RX11 166 "java/lang/IndexOutOfBoundsException" ["java/lang/RuntimeException", "java/lang/Exception"]).filter goodWord
theorem inlX0 : ∀ w ∈ wsX00, w ∈ wsL_law := fun _ h => List.mem_append_left _ (List.mem_append_left _ (List.mem_append_left _ (List.mem_append_left _ (List.mem_append_left _ (List.mem_append_left _ (List.mem_append_left _ (List.mem_append_left _ (List.mem_append_left _ (List.mem_append_left _ (List.mem_append_left _ (List.mem_append_left _ (List.mem_append_left _ (List.mem_append_left _ (List.mem_append_left _ (List.mem_append_right _ h)))))))))))))))
theorem inlX1 : ∀ w ∈ wsX10, w ∈ wsL_law := fun _ h => List.mem_append_left _ (List.mem_append_left _ (List.mem_append_left _ (List.mem_append_left _ (List.mem_append_left _ (List.mem_append_left _ (List.mem_append_left _ (List.mem_append_left _ (List.mem_append_left _ (List.mem_append_right _ h)))))))))
theorem inlX2 : ∀ w ∈ wsX20, w ∈ wsL_law := fun _ h => List.mem_append_left _ (List.mem_append_left _ (List.mem_append_left _ (List.mem_append_left _ (List.mem_append_left _ (List.mem_append_left _ (List.mem_append_left _ (List.mem_append_left _ (List.mem_append_left _ (List.mem_append_left _ (List.mem_append_left _ (List.mem_append_left _ (List.mem_append_right _ h))))))))))))
theorem inlX3 : ∀ w ∈ wsX30, w ∈ wsL_law := fun _ h => List.mem_append_left _ (List.mem_append_left _ (List.mem_append_left _ (List.mem_append_left _ (List.mem_append_left _ (List.mem_append_left _ (List.mem_append_right _ h))))))
theorem inlX4 : ∀ w ∈ wsX40, w ∈ wsL_law := fun _ h => List.mem_append_left _ (List.mem_append_left _ (List.mem_append_left _ (List.mem_append_left _ (List.mem_append_left _ (List.mem_append_left _ (List.mem_append_left _ (List.mem_append_left _ (List.mem_append_left _ (List.mem_append_left _ (List.mem_append_left _ (List.mem_append_right _ h)))))))))))
theorem inlX5 : ∀ w ∈ wsX50, w ∈ wsL_law := fun _ h => List.mem_append_left _ (List.mem_append_left _ (List.mem_append_left _ (List.mem_append_left _ (List.mem_append_left _ (List.mem_append_left _ (List.mem_append_left _ (List.mem_append_right _ h)))))))
theorem inlX6 : ∀ w ∈ wsX60, w ∈ wsL_law := fun _ h => List.mem_append_left _ (List.mem_append_left _ (List.mem_append_left _ (List.mem_append_left _ (List.mem_append_left _ (List.mem_append_left _ (List.mem_append_left _ (List.mem_append_left _ (List.mem_append_right _ h))))))))
theorem inlX7 : ∀ w ∈ wsX70, w ∈ wsL_law := fun _ h => List.mem_append_left _ (List.mem_append_left _ (List.mem_append_left _ (List.mem_append_left _ (List.mem_append_left _ (List.mem_append_left _ (List.mem_append_left _ (List.mem_append_left _ (List.mem_append_left _ (List.mem_append_left _ (List.mem_append_left _ (List.mem_append_left _ (List.mem_append_left _ (List.mem_append_right _ h)))))))))))))
theorem inlX8 : ∀ w ∈ wsX80, w ∈ wsL_law := fun _ h => List.mem_append_left _ (List.mem_append_left _ (List.mem_append_left _ (List.mem_append_left _ (List.mem_append_left _ (List.mem_append_left _ (List.mem_append_left _ (List.mem_append_left _ (List.mem_append_left _ (List.mem_append_left _ (List.mem_append_left _ (List.mem_append_left _ (List.mem_append_left _ (List.mem_append_left _ (List.mem_append_right _ h))))))))))))))
theorem inlX9 : ∀ w ∈ wsX90, w ∈ wsL_law := fun _ h => List.mem_append_left _ (List.mem_append_left _ (List.mem_append_left _ (List.mem_append_left _ (List.mem_append_left _ (List.mem_append_left _ (List.mem_append_left _ (List.mem_append_left _ (List.mem_append_left _ (List.mem_append_left _ (List.mem_append_right _ h))))))))))
theorem inlX10 : ∀ w ∈ wsX100, w ∈ wsL_law := fun _ h => List.mem_append_left _ (List.mem_append_left _ (List.mem_append_left _ (List.mem_append_left _ (List.mem_append_left _ (List.mem_append_right _ h)))))
theorem inlX11 : ∀ w ∈ wsX110, w ∈ wsL_law := fun _ h => List.mem_append_left _ (List.mem_append_left _ (List.mem_append_left _ (List.mem_append_left _ (List.mem_append_left _ (List.mem_append_left _ (List.mem_append_left _ (List.mem_append_left _ (List.mem_append_left _ (List.mem_append_left _ (List.mem_append_left _ (List.mem_append_left _ (List.mem_append_left _ (List.mem_append_left _ (List.mem_append_left _ (List.mem_append_left _ (List.mem_append_right _ h))))))))))))))))
theorem inlJ0 : ∀ w ∈ wsJ00, w ∈ wsL_law := fun _ h => List.mem_append_left _ (List.mem_append_left _ (List.mem_append_left _ (List.mem_append_right _ h)))
theorem inlJ4 : ∀ w ∈ wsJ40, w ∈ wsL_law := fun _ h => List.mem_append_left _ (List.mem_append_left _ (List.mem_append_left _ (List.mem_append_left _ (List.mem_append_right _ h))))
theorem inlL : ∀ w ∈ wsL0, w ∈ wsL_law := fun _ h => List.mem_append_left _ (List.mem_append_left _ (List.mem_append_left _ (List.mem_append_left _ (List.mem_append_left _ (List.mem_append_left _ (List.mem_append_left _ (List.mem_append_left _ (List.mem_append_left _ (List.mem_append_left _ (List.mem_append_left _ (List.mem_append_left _ (List.mem_append_left _ (List.mem_append_left _ (List.mem_append_left _ (List.mem_append_left _ (List.mem_append_left _ (List.mem_append_right _ h)))))))))))))))))
abbrev vwCl : List vw_C := [(RX0, TX0, 1), (RX1, TX1, 16), (RX2, TX2, 3), (RX3, TX3, 4), (RX4, TX4, 2), (RX5, TX5, 6), (RX6, TX6, 4), (RX7, TX7, 2), (RX8, TX8, 2), (RX9, TX9, 2), (RX10, TX10, 7), (RX11, TX11, 13), (RL, TL, 18), (RJ0, TJ0, 4), (RJ4, TJ4, 4)]
