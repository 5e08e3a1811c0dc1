/-! ===== BEGIN printed: names, fields, word lists, decode rows ===== -/
def RX0 : String := "CheckWeigher$Item"
def TX0 : u_T := fun k => match k with
  | 0 => ("CheckWeigher$Item", "weight", "I", false)
  | 1 => ("CheckWeigher$Item", "length", "I", false)
  | 2 => ("CheckWeigher$Item", "front", "I", false)
  | 3 => ("CheckWeigher$Item", "state", "I", false)
  | 4 => ("CheckWeigher$Item", "isDisturbed", "Z", false)
  | 5 => ("CheckWeigher$Item", "kind", "I", false)
  | 6 => ("CheckWeigher$Item", "target", "I", false)
  | 7 => ("CheckWeigher$Item", "decidedAt", "I", false)
  | 8 => ("CheckWeigher$Item", "leftAt", "I", false)
  | 9 => ("CheckWeigher$Item", "openFrom", "I", false)
  | 10 => ("CheckWeigher$Item", "openTo", "I", false)
  | 11 => ("CheckWeigher$Item", "awaitedAt", "I", false)
  | 12 => ("CheckWeigher$Item", "hasResult", "Z", false)
  | 13 => ("CheckWeigher$Item", "result", "I", false)
  | 14 => ("CheckWeigher$Item", "kept", "I", false)
  | 15 => ("CheckWeigher$Item", "oldest", "I", false)
  | _ => ("CheckWeigher$Item", "samples", "[I", true)
def tyX0 : Nat → FieldType := fun k => match k with
  | 0 => .int
  | 1 => .int
  | 2 => .int
  | 3 => .int
  | 4 => .boolean
  | 5 => .int
  | 6 => .int
  | 7 => .int
  | 8 => .int
  | 9 => .int
  | 10 => .int
  | 11 => .int
  | 12 => .boolean
  | 13 => .int
  | 14 => .int
  | 15 => .int
  | _ => .array .int
abbrev wsX00 : List Cond := u_ws RX0 TX0 17
theorem nmX0 : ∀ a, a < 17 → ∀ b, b < 17 → a ≠ b → (TX0 a).2.1 ≠ (TX0 b).2.1 := by decide +kernel
theorem tyX0_ok : ∀ k, k < 17 → parseFieldDescriptor (TX0 k).2.2.1 = some (tyX0 k) := by decide +kernel
abbrev cX0_init : ByteArray := prog_2_method_1_code
def yX0_init : MethodName := ⟨RX0, "<init>", "()V"⟩
abbrev cX0_begin : ByteArray := prog_2_method_2_code
def yX0_begin : MethodName := ⟨RX0, "begin", "(II)V"⟩
abbrev cX0_rides : ByteArray := prog_2_method_4_code
def yX0_rides : MethodName := ⟨RX0, "rides", "()Z"⟩
abbrev cX0_isCommanding : ByteArray := prog_2_method_5_code
def yX0_isCommanding : MethodName := ⟨RX0, "isCommanding", "(II)Z"⟩
abbrev cX0_addSample : ByteArray := prog_2_method_6_code
def yX0_addSample : MethodName := ⟨RX0, "addSample", "(I)V"⟩
abbrev cX0_keptAt : ByteArray := prog_2_method_7_code
def yX0_keptAt : MethodName := ⟨RX0, "keptAt", "(I)I"⟩
abbrev cX0_meanOfLatest : ByteArray := prog_2_method_8_code
def yX0_meanOfLatest : MethodName := ⟨RX0, "meanOfLatest", "(I)I"⟩
abbrev cX0_spreadOfLatest : ByteArray := prog_2_method_9_code
def yX0_spreadOfLatest : MethodName := ⟨RX0, "spreadOfLatest", "(I)I"⟩
def RX1 : String := "CheckWeigher$Line"
def TX1 : u_T := fun k => match k with
  | 0 => ("CheckWeigher$Line", "setup", "LCheckWeigher$Setup;", false)
  | 1 => ("CheckWeigher$Line", "time", "I", false)
  | 2 => ("CheckWeigher$Line", "low", "I", false)
  | 3 => ("CheckWeigher$Line", "high", "I", false)
  | 4 => ("CheckWeigher$Line", "tare", "I", false)
  | 5 => ("CheckWeigher$Line", "decisions", "I", false)
  | 6 => ("CheckWeigher$Line", "waiting", "I", false)
  | 7 => ("CheckWeigher$Line", "itemNumber", "I", false)
  | 8 => ("CheckWeigher$Line", "jammed", "[Z", true)
  | 9 => ("CheckWeigher$Line", "failing", "[Z", true)
  | 10 => ("CheckWeigher$Line", "diverted", "[I", true)
  | 11 => ("CheckWeigher$Line", "confirmed", "[I", true)
  | 12 => ("CheckWeigher$Line", "alarms", "[I", true)
  | 13 => ("CheckWeigher$Line", "items", "[LCheckWeigher$Item;", true)
  | 14 => ("CheckWeigher$Line", "cell", "[I", true)
  | 15 => ("CheckWeigher$Line", "firstRiding", "I", false)
  | 16 => ("CheckWeigher$Line", "onTable", "I", false)
  | _ => ("CheckWeigher$Line", "emptyTicks", "I", false)
def tyX1 : Nat → FieldType := fun k => match k with
  | 0 => .object "CheckWeigher$Setup"
  | 1 => .int
  | 2 => .int
  | 3 => .int
  | 4 => .int
  | 5 => .int
  | 6 => .int
  | 7 => .int
  | 8 => .array .boolean
  | 9 => .array .boolean
  | 10 => .array .int
  | 11 => .array .int
  | 12 => .array .int
  | 13 => .array (.object "CheckWeigher$Item")
  | 14 => .array .int
  | 15 => .int
  | 16 => .int
  | _ => .int
abbrev wsX10 : List Cond := u_ws RX1 TX1 18
theorem nmX1 : ∀ a, a < 18 → ∀ b, b < 18 → a ≠ b → (TX1 a).2.1 ≠ (TX1 b).2.1 := by decide +kernel
theorem tyX1_ok : ∀ k, k < 18 → parseFieldDescriptor (TX1 k).2.2.1 = some (tyX1 k) := by decide +kernel
abbrev cX1_init : ByteArray := prog_3_method_1_code
def yX1_init : MethodName := ⟨RX1, "<init>", "(LCheckWeigher$Setup;)V"⟩
abbrev cX1_begin : ByteArray := prog_3_method_2_code
def yX1_begin : MethodName := ⟨RX1, "begin", "(LCheckWeigher$Setup;)V"⟩
abbrev cX1_find : ByteArray := prog_3_method_4_code
def yX1_find : MethodName := ⟨RX1, "find", "(I)LCheckWeigher$Item;"⟩
abbrev cX1_hasRoom : ByteArray := prog_3_method_5_code
def yX1_hasRoom : MethodName := ⟨RX1, "hasRoom", "()Z"⟩
abbrev cX1_add : ByteArray := prog_3_method_6_code
def yX1_add : MethodName := ⟨RX1, "add", "(II)I"⟩
abbrev cX1_tick : ByteArray := prog_3_method_7_code
def yX1_tick : MethodName := ⟨RX1, "tick", "()V"⟩
abbrev cX1_moveItems : ByteArray := prog_3_method_8_code
def yX1_moveItems : MethodName := ⟨RX1, "moveItems", "()V"⟩
abbrev cX1_readCell : ByteArray := prog_3_method_9_code
def yX1_readCell : MethodName := ⟨RX1, "readCell", "()V"⟩
abbrev cX1_collectSamples : ByteArray := prog_3_method_10_code
def yX1_collectSamples : MethodName := ⟨RX1, "collectSamples", "()V"⟩
abbrev cX1_decideItems : ByteArray := prog_3_method_11_code
def yX1_decideItems : MethodName := ⟨RX1, "decideItems", "()V"⟩
abbrev cX1_decide : ByteArray := prog_3_method_12_code
def yX1_decide : MethodName := ⟨RX1, "decide", "(LCheckWeigher$Item;)V"⟩
abbrev cX1_kindOf : ByteArray := prog_3_method_13_code
def yX1_kindOf : MethodName := ⟨RX1, "kindOf", "(LCheckWeigher$Item;I)I"⟩
abbrev cX1_command : ByteArray := prog_3_method_14_code
def yX1_command : MethodName := ⟨RX1, "command", "(LCheckWeigher$Item;I)V"⟩
abbrev cX1_meetGates : ByteArray := prog_3_method_15_code
def yX1_meetGates : MethodName := ⟨RX1, "meetGates", "()V"⟩
abbrev cX1_comesTo : ByteArray := prog_3_method_16_code
def yX1_comesTo : MethodName := ⟨RX1, "comesTo", "(LCheckWeigher$Item;I)Z"⟩
abbrev cX1_divert : ByteArray := prog_3_method_17_code
def yX1_divert : MethodName := ⟨RX1, "divert", "(LCheckWeigher$Item;I)V"⟩
abbrev cX1_leaveAtEnd : ByteArray := prog_3_method_18_code
def yX1_leaveAtEnd : MethodName := ⟨RX1, "leaveAtEnd", "()V"⟩
abbrev cX1_zeroTare : ByteArray := prog_3_method_19_code
def yX1_zeroTare : MethodName := ⟨RX1, "zeroTare", "()V"⟩
abbrev cX1_confirmDiversions : ByteArray := prog_3_method_20_code
def yX1_confirmDiversions : MethodName := ⟨RX1, "confirmDiversions", "()V"⟩
abbrev cX1_cellAt : ByteArray := prog_3_method_21_code
def yX1_cellAt : MethodName := ⟨RX1, "cellAt", "(I)I"⟩
abbrev cX1_isOpen : ByteArray := prog_3_method_22_code
def yX1_isOpen : MethodName := ⟨RX1, "isOpen", "(I)Z"⟩
abbrev cX1_isCommanded : ByteArray := prog_3_method_23_code
def yX1_isCommanded : MethodName := ⟨RX1, "isCommanded", "(II)Z"⟩
abbrev cX1_allAlarms : ByteArray := prog_3_method_24_code
def yX1_allAlarms : MethodName := ⟨RX1, "allAlarms", "()I"⟩
abbrev cX1_itemsIn : ByteArray := prog_3_method_25_code
def yX1_itemsIn : MethodName := ⟨RX1, "itemsIn", "(I)I"⟩
abbrev cX1_itemsOf : ByteArray := prog_3_method_26_code
def yX1_itemsOf : MethodName := ⟨RX1, "itemsOf", "(I)I"⟩
abbrev cX1_sumOfGood : ByteArray := prog_3_method_27_code
def yX1_sumOfGood : MethodName := ⟨RX1, "sumOfGood", "()I"⟩
abbrev cX1_itemsWithResult : ByteArray := prog_3_method_28_code
def yX1_itemsWithResult : MethodName := ⟨RX1, "itemsWithResult", "()I"⟩
abbrev cX1_sumOfErrors : ByteArray := prog_3_method_29_code
def yX1_sumOfErrors : MethodName := ⟨RX1, "sumOfErrors", "()I"⟩
def RX2 : String := "CheckWeigher$Reader"
def TX2 : u_T := fun k => match k with
  | 0 => ("CheckWeigher$Reader", "bytes", "[I", true)
  | 1 => ("CheckWeigher$Reader", "length", "I", false)
  | 2 => ("CheckWeigher$Reader", "draft", "LCheckWeigher$Setup;", false)
  | 3 => ("CheckWeigher$Reader", "token", "I", false)
  | 4 => ("CheckWeigher$Reader", "start", "I", false)
  | 5 => ("CheckWeigher$Reader", "end", "I", false)
  | 6 => ("CheckWeigher$Reader", "seen", "I", false)
  | 7 => ("CheckWeigher$Reader", "errorFound", "I", false)
  | _ => ("CheckWeigher$Reader", "errorStart", "I", false)
def tyX2 : Nat → FieldType := fun k => match k with
  | 0 => .array .int
  | 1 => .int
  | 2 => .object "CheckWeigher$Setup"
  | 3 => .int
  | 4 => .int
  | 5 => .int
  | 6 => .int
  | 7 => .int
  | _ => .int
abbrev wsX20 : List Cond := u_ws RX2 TX2 9
theorem nmX2 : ∀ a, a < 9 → ∀ b, b < 9 → a ≠ b → (TX2 a).2.1 ≠ (TX2 b).2.1 := by decide +kernel
theorem tyX2_ok : ∀ k, k < 9 → parseFieldDescriptor (TX2 k).2.2.1 = some (tyX2 k) := by decide +kernel
abbrev cX2_init : ByteArray := prog_4_method_1_code
def yX2_init : MethodName := ⟨RX2, "<init>", "([ILCheckWeigher$Setup;)V"⟩
abbrev cX2_read : ByteArray := prog_4_method_2_code
def yX2_read : MethodName := ⟨RX2, "read", "(ILCheckWeigher$Setup;)V"⟩
abbrev cX2_readBelt : ByteArray := prog_4_method_3_code
def yX2_readBelt : MethodName := ⟨RX2, "readBelt", "()V"⟩
abbrev cX2_readVibrations : ByteArray := prog_4_method_4_code
def yX2_readVibrations : MethodName := ⟨RX2, "readVibrations", "()V"⟩
abbrev cX2_readPeriod : ByteArray := prog_4_method_5_code
def yX2_readPeriod : MethodName := ⟨RX2, "readPeriod", "()I"⟩
abbrev cX2_readGates : ByteArray := prog_4_method_6_code
def yX2_readGates : MethodName := ⟨RX2, "readGates", "()V"⟩
abbrev cX2_readKind : ByteArray := prog_4_method_7_code
def yX2_readKind : MethodName := ⟨RX2, "readKind", "()I"⟩
abbrev cX2_kindAt : ByteArray := prog_4_method_8_code
def yX2_kindAt : MethodName := ⟨RX2, "kindAt", "()I"⟩
abbrev cX2_readSettings : ByteArray := prog_4_method_9_code
def yX2_readSettings : MethodName := ⟨RX2, "readSettings", "()V"⟩
abbrev cX2_settingAt : ByteArray := prog_4_method_10_code
def yX2_settingAt : MethodName := ⟨RX2, "settingAt", "()I"⟩
abbrev cX2_readSetting : ByteArray := prog_4_method_11_code
def yX2_readSetting : MethodName := ⟨RX2, "readSetting", "(I)V"⟩
abbrev cX2_readNotch : ByteArray := prog_4_method_12_code
def yX2_readNotch : MethodName := ⟨RX2, "readNotch", "()V"⟩
abbrev cX2_readWord : ByteArray := prog_4_method_13_code
def yX2_readWord : MethodName := ⟨RX2, "readWord", "(Ljava/lang/String;)V"⟩
abbrev cX2_readSemicolon : ByteArray := prog_4_method_14_code
def yX2_readSemicolon : MethodName := ⟨RX2, "readSemicolon", "()V"⟩
abbrev cX2_readNumber : ByteArray := prog_4_method_15_code
def yX2_readNumber : MethodName := ⟨RX2, "readNumber", "(II)I"⟩
abbrev cX2_fail : ByteArray := prog_4_method_16_code
def yX2_fail : MethodName := ⟨RX2, "fail", "(I)V"⟩
abbrev cX2_isAt : ByteArray := prog_4_method_17_code
def yX2_isAt : MethodName := ⟨RX2, "isAt", "(Ljava/lang/String;)Z"⟩
abbrev cX2_value : ByteArray := prog_4_method_18_code
def yX2_value : MethodName := ⟨RX2, "value", "()I"⟩
abbrev cX2_advance : ByteArray := prog_4_method_19_code
def yX2_advance : MethodName := ⟨RX2, "advance", "()V"⟩
abbrev cX2_byteAt : ByteArray := prog_4_method_20_code
def yX2_byteAt : MethodName := ⟨RX2, "byteAt", "(I)I"⟩
abbrev cX2_isBlank : ByteArray := prog_4_method_21_code
def yX2_isBlank : MethodName := ⟨RX2, "isBlank", "(I)Z"⟩
abbrev cX2_isLetter : ByteArray := prog_4_method_22_code
def yX2_isLetter : MethodName := ⟨RX2, "isLetter", "(I)Z"⟩
abbrev cX2_isDigit : ByteArray := prog_4_method_23_code
def yX2_isDigit : MethodName := ⟨RX2, "isDigit", "(I)Z"⟩
def RX3 : String := "CheckWeigher$ResidueTable"
def TX3 : u_T := fun k => match k with
  | 0 => ("CheckWeigher$ResidueTable", "vibrations", "LCheckWeigher$Vibrations;", false)
  | 1 => ("CheckWeigher$ResidueTable", "hasSums", "Z", false)
  | 2 => ("CheckWeigher$ResidueTable", "sumBefore", "[I", true)
  | _ => ("CheckWeigher$ResidueTable", "worst", "[I", true)
def tyX3 : Nat → FieldType := fun k => match k with
  | 0 => .object "CheckWeigher$Vibrations"
  | 1 => .boolean
  | 2 => .array .int
  | _ => .array .int
abbrev wsX30 : List Cond := u_ws RX3 TX3 4
theorem nmX3 : ∀ a, a < 4 → ∀ b, b < 4 → a ≠ b → (TX3 a).2.1 ≠ (TX3 b).2.1 := by decide +kernel
theorem tyX3_ok : ∀ k, k < 4 → parseFieldDescriptor (TX3 k).2.2.1 = some (tyX3 k) := by decide +kernel
abbrev cX3_init : ByteArray := prog_5_method_1_code
def yX3_init : MethodName := ⟨RX3, "<init>", "(LCheckWeigher$Vibrations;)V"⟩
abbrev cX3_begin : ByteArray := prog_5_method_2_code
def yX3_begin : MethodName := ⟨RX3, "begin", "(LCheckWeigher$Vibrations;)V"⟩
def RX4 : String := "CheckWeigher$Setup"
def TX4 : u_T := fun k => match k with
  | 0 => ("CheckWeigher$Setup", "speed", "I", false)
  | 1 => ("CheckWeigher$Setup", "tableBegin", "I", false)
  | 2 => ("CheckWeigher$Setup", "tableEnd", "I", false)
  | 3 => ("CheckWeigher$Setup", "beltEnd", "I", false)
  | 4 => ("CheckWeigher$Setup", "vibrations", "LCheckWeigher$Vibrations;", true)
  | 5 => ("CheckWeigher$Setup", "gateNumber", "I", false)
  | 6 => ("CheckWeigher$Setup", "gateKind", "[I", true)
  | 7 => ("CheckWeigher$Setup", "gatePosition", "[I", true)
  | 8 => ("CheckWeigher$Setup", "gateReaction", "[I", true)
  | 9 => ("CheckWeigher$Setup", "low", "I", false)
  | 10 => ("CheckWeigher$Setup", "high", "I", false)
  | 11 => ("CheckWeigher$Setup", "window", "I", false)
  | 12 => ("CheckWeigher$Setup", "isNotched", "Z", false)
  | 13 => ("CheckWeigher$Setup", "steady", "I", false)
  | 14 => ("CheckWeigher$Setup", "least", "I", false)
  | 15 => ("CheckWeigher$Setup", "driftAmount", "I", false)
  | 16 => ("CheckWeigher$Setup", "driftTicks", "I", false)
  | 17 => ("CheckWeigher$Setup", "zero", "I", false)
  | _ => ("CheckWeigher$Setup", "confirm", "I", false)
def tyX4 : Nat → FieldType := fun k => match k with
  | 0 => .int
  | 1 => .int
  | 2 => .int
  | 3 => .int
  | 4 => .object "CheckWeigher$Vibrations"
  | 5 => .int
  | 6 => .array .int
  | 7 => .array .int
  | 8 => .array .int
  | 9 => .int
  | 10 => .int
  | 11 => .int
  | 12 => .boolean
  | 13 => .int
  | 14 => .int
  | 15 => .int
  | 16 => .int
  | 17 => .int
  | _ => .int
abbrev wsX40 : List Cond := u_ws RX4 TX4 19
theorem nmX4 : ∀ a, a < 19 → ∀ b, b < 19 → a ≠ b → (TX4 a).2.1 ≠ (TX4 b).2.1 := by decide +kernel
theorem tyX4_ok : ∀ k, k < 19 → parseFieldDescriptor (TX4 k).2.2.1 = some (tyX4 k) := by decide +kernel
abbrev cX4_init : ByteArray := prog_6_method_1_code
def yX4_init : MethodName := ⟨RX4, "<init>", "()V"⟩
abbrev cX4_reset : ByteArray := prog_6_method_2_code
def yX4_reset : MethodName := ⟨RX4, "reset", "()V"⟩
abbrev cX4_hasGate : ByteArray := prog_6_method_3_code
def yX4_hasGate : MethodName := ⟨RX4, "hasGate", "(I)Z"⟩
abbrev cX4_addGate : ByteArray := prog_6_method_4_code
def yX4_addGate : MethodName := ⟨RX4, "addGate", "(III)V"⟩
abbrev cX4_gateFor : ByteArray := prog_6_method_5_code
def yX4_gateFor : MethodName := ⟨RX4, "gateFor", "(I)I"⟩
abbrev cX4_lastPosition : ByteArray := prog_6_method_6_code
def yX4_lastPosition : MethodName := ⟨RX4, "lastPosition", "()I"⟩
abbrev cX4_windowInUse : ByteArray := prog_6_method_7_code
def yX4_windowInUse : MethodName := ⟨RX4, "windowInUse", "()I"⟩
abbrev cX4_loadCellAlone : ByteArray := prog_6_method_8_code
def yX4_loadCellAlone : MethodName := ⟨RX4, "loadCellAlone", "(I)I"⟩
abbrev cX4_lengthOnTable : ByteArray := prog_6_method_9_code
def yX4_lengthOnTable : MethodName := ⟨RX4, "lengthOnTable", "(II)I"⟩
abbrev cX4_isInPart : ByteArray := prog_6_method_10_code
def yX4_isInPart : MethodName := ⟨RX4, "isInPart", "(II)Z"⟩
abbrev cX4_isAsWhole : ByteArray := prog_6_method_11_code
def yX4_isAsWhole : MethodName := ⟨RX4, "isAsWhole", "(II)Z"⟩
abbrev cX4_ticksFor : ByteArray := prog_6_method_12_code
def yX4_ticksFor : MethodName := ⟨RX4, "ticksFor", "(I)I"⟩
def RX5 : String := "CheckWeigher$Vibrations"
def TX5 : u_T := fun k => match k with
  | 0 => ("CheckWeigher$Vibrations", "number", "I", false)
  | 1 => ("CheckWeigher$Vibrations", "amplitude", "[I", true)
  | 2 => ("CheckWeigher$Vibrations", "period", "[I", true)
  | _ => ("CheckWeigher$Vibrations", "shift", "[I", true)
def tyX5 : Nat → FieldType := fun k => match k with
  | 0 => .int
  | 1 => .array .int
  | 2 => .array .int
  | _ => .array .int
abbrev wsX50 : List Cond := u_ws RX5 TX5 4
theorem nmX5 : ∀ a, a < 4 → ∀ b, b < 4 → a ≠ b → (TX5 a).2.1 ≠ (TX5 b).2.1 := by decide +kernel
theorem tyX5_ok : ∀ k, k < 4 → parseFieldDescriptor (TX5 k).2.2.1 = some (tyX5 k) := by decide +kernel
abbrev cX5_init : ByteArray := prog_7_method_1_code
def yX5_init : MethodName := ⟨RX5, "<init>", "()V"⟩
abbrev cX5_add : ByteArray := prog_7_method_2_code
def yX5_add : MethodName := ⟨RX5, "add", "(III)V"⟩
abbrev cX5_valueAt : ByteArray := prog_7_method_3_code
def yX5_valueAt : MethodName := ⟨RX5, "valueAt", "(I)I"⟩
abbrev cX5_cancelIn : ByteArray := prog_7_method_4_code
def yX5_cancelIn : MethodName := ⟨RX5, "cancelIn", "(I)Z"⟩
def RX6 : String := "CheckWeigher"
def TX6 : u_T := fun k => match k with
  | 0 => ("CheckWeigher", "text", "[I", true)
  | 1 => ("CheckWeigher", "textLength", "I", false)
  | 2 => ("CheckWeigher", "lastErrorCode", "I", false)
  | 3 => ("CheckWeigher", "lastErrorPosition", "I", false)
  | 4 => ("CheckWeigher", "setup", "LCheckWeigher$Setup;", false)
  | 5 => ("CheckWeigher", "spareSetup", "LCheckWeigher$Setup;", false)
  | 6 => ("CheckWeigher", "reader", "LCheckWeigher$Reader;", true)
  | 7 => ("CheckWeigher", "line", "LCheckWeigher$Line;", true)
  | 8 => ("CheckWeigher", "forecast", "LCheckWeigher$Line;", true)
  | _ => ("CheckWeigher", "residues", "LCheckWeigher$ResidueTable;", true)
def tyX6 : Nat → FieldType := fun k => match k with
  | 0 => .array .int
  | 1 => .int
  | 2 => .int
  | 3 => .int
  | 4 => .object "CheckWeigher$Setup"
  | 5 => .object "CheckWeigher$Setup"
  | 6 => .object "CheckWeigher$Reader"
  | 7 => .object "CheckWeigher$Line"
  | 8 => .object "CheckWeigher$Line"
  | _ => .object "CheckWeigher$ResidueTable"
abbrev wsX60 : List Cond := u_ws RX6 TX6 10
theorem nmX6 : ∀ a, a < 10 → ∀ b, b < 10 → a ≠ b → (TX6 a).2.1 ≠ (TX6 b).2.1 := by decide +kernel
theorem tyX6_ok : ∀ k, k < 10 → parseFieldDescriptor (TX6 k).2.2.1 = some (tyX6 k) := by decide +kernel
abbrev cX6_init : ByteArray := prog_1_method_1_code
def yX6_init : MethodName := ⟨RX6, "<init>", "()V"⟩
abbrev cX6_append : ByteArray := prog_1_method_2_code
def yX6_append : MethodName := ⟨RX6, "append", "(IIIII)I"⟩
abbrev cX6_addBytes : ByteArray := prog_1_method_3_code
def yX6_addBytes : MethodName := ⟨RX6, "addBytes", "(I)V"⟩
abbrev cX6_truncate : ByteArray := prog_1_method_4_code
def yX6_truncate : MethodName := ⟨RX6, "truncate", "(I)I"⟩
abbrev cX6_load : ByteArray := prog_1_method_5_code
def yX6_load : MethodName := ⟨RX6, "load", "()I"⟩
abbrev cX6_report : ByteArray := prog_1_method_8_code
def yX6_report : MethodName := ⟨RX6, "report", "(I)I"⟩
abbrev cX6_gate : ByteArray := prog_1_method_9_code
def yX6_gate : MethodName := ⟨RX6, "gate", "(II)I"⟩
abbrev cX6_put : ByteArray := prog_1_method_10_code
def yX6_put : MethodName := ⟨RX6, "put", "(II)I"⟩
abbrev cX6_step : ByteArray := prog_1_method_11_code
def yX6_step : MethodName := ⟨RX6, "step", "(I)I"⟩
abbrev cX6_jam : ByteArray := prog_1_method_12_code
def yX6_jam : MethodName := ⟨RX6, "jam", "(IZ)Z"⟩
abbrev cX6_sensor : ByteArray := prog_1_method_13_code
def yX6_sensor : MethodName := ⟨RX6, "sensor", "(IZ)Z"⟩
abbrev cX6_setLimits : ByteArray := prog_1_method_14_code
def yX6_setLimits : MethodName := ⟨RX6, "setLimits", "(II)V"⟩
abbrev cX6_setTare : ByteArray := prog_1_method_15_code
def yX6_setTare : MethodName := ⟨RX6, "setTare", "(I)I"⟩
abbrev cX6_item : ByteArray := prog_1_method_16_code
def yX6_item : MethodName := ⟨RX6, "item", "(II)I"⟩
abbrev cX6_measured : ByteArray := prog_1_method_17_code
def yX6_measured : MethodName := ⟨RX6, "measured", "(I)I"⟩
abbrev cX6_sampleOf : ByteArray := prog_1_method_18_code
def yX6_sampleOf : MethodName := ⟨RX6, "sampleOf", "(II)I"⟩
abbrev cX6_sample : ByteArray := prog_1_method_19_code
def yX6_sample : MethodName := ⟨RX6, "sample", "(I)I"⟩
abbrev cX6_count : ByteArray := prog_1_method_20_code
def yX6_count : MethodName := ⟨RX6, "count", "(I)I"⟩
abbrev cX6_decided : ByteArray := prog_1_method_21_code
def yX6_decided : MethodName := ⟨RX6, "decided", "(I)I"⟩
abbrev cX6_meanGood : ByteArray := prog_1_method_22_code
def yX6_meanGood : MethodName := ⟨RX6, "meanGood", "()D"⟩
abbrev cX6_meanError : ByteArray := prog_1_method_23_code
def yX6_meanError : MethodName := ⟨RX6, "meanError", "()D"⟩
abbrev cX6_weightWith : ByteArray := prog_1_method_27_code
def yX6_weightWith : MethodName := ⟨RX6, "weightWith", "(II)I"⟩
abbrev cX6_isLength : ByteArray := prog_1_method_34_code
def yX6_isLength : MethodName := ⟨RX6, "isLength", "(I)Z"⟩
abbrev cX6_isWindow : ByteArray := prog_1_method_35_code
def yX6_isWindow : MethodName := ⟨RX6, "isWindow", "(I)Z"⟩
abbrev cX6_quotient : ByteArray := prog_1_method_36_code
def yX6_quotient : MethodName := ⟨RX6, "quotient", "(II)I"⟩
abbrev cX6_remainder : ByteArray := prog_1_method_37_code
def yX6_remainder : MethodName := ⟨RX6, "remainder", "(II)I"⟩
abbrev cX6_quotientUp : ByteArray := prog_1_method_38_code
def yX6_quotientUp : MethodName := ⟨RX6, "quotientUp", "(II)I"⟩
def RX7 : String := "CheckWeigherLaw$Box"
def TX7 : u_T := fun k => match k with
  | 0 => ("CheckWeigherLaw$Box", "number", "I", false)
  | 1 => ("CheckWeigherLaw$Box", "weight", "I", false)
  | 2 => ("CheckWeigherLaw$Box", "length", "I", false)
  | 3 => ("CheckWeigherLaw$Box", "front", "I", false)
  | 4 => ("CheckWeigherLaw$Box", "state", "I", false)
  | 5 => ("CheckWeigherLaw$Box", "kind", "I", false)
  | 6 => ("CheckWeigherLaw$Box", "gate", "I", false)
  | 7 => ("CheckWeigherLaw$Box", "decided", "I", false)
  | 8 => ("CheckWeigherLaw$Box", "left", "I", false)
  | 9 => ("CheckWeigherLaw$Box", "from", "I", false)
  | 10 => ("CheckWeigherLaw$Box", "to", "I", false)
  | 11 => ("CheckWeigherLaw$Box", "measured", "I", false)
  | 12 => ("CheckWeigherLaw$Box", "isDisturbed", "Z", false)
  | _ => ("CheckWeigherLaw$Box", "samples", "Ljava/util/ArrayList;", false)
def tyX7 : Nat → FieldType := fun k => match k with
  | 0 => .int
  | 1 => .int
  | 2 => .int
  | 3 => .int
  | 4 => .int
  | 5 => .int
  | 6 => .int
  | 7 => .int
  | 8 => .int
  | 9 => .int
  | 10 => .int
  | 11 => .int
  | 12 => .boolean
  | _ => .object "java/util/ArrayList"
abbrev wsX70 : List Cond := u_ws RX7 TX7 14
theorem nmX7 : ∀ a, a < 14 → ∀ b, b < 14 → a ≠ b → (TX7 a).2.1 ≠ (TX7 b).2.1 := by decide +kernel
theorem tyX7_ok : ∀ k, k < 14 → parseFieldDescriptor (TX7 k).2.2.1 = some (tyX7 k) := by decide +kernel
abbrev cX7_init : ByteArray := prog_9_method_1_code
def yX7_init : MethodName := ⟨RX7, "<init>", "()V"⟩
def RX8 : String := "CheckWeigherLaw$Gate"
def TX8 : u_T := fun k => match k with
  | 0 => ("CheckWeigherLaw$Gate", "kind", "I", false)
  | 1 => ("CheckWeigherLaw$Gate", "position", "I", false)
  | 2 => ("CheckWeigherLaw$Gate", "reaction", "I", false)
  | 3 => ("CheckWeigherLaw$Gate", "diverted", "I", false)
  | 4 => ("CheckWeigherLaw$Gate", "confirmed", "I", false)
  | 5 => ("CheckWeigherLaw$Gate", "alarms", "I", false)
  | 6 => ("CheckWeigherLaw$Gate", "isJammed", "Z", false)
  | _ => ("CheckWeigherLaw$Gate", "isDeaf", "Z", false)
def tyX8 : Nat → FieldType := fun k => match k with
  | 0 => .int
  | 1 => .int
  | 2 => .int
  | 3 => .int
  | 4 => .int
  | 5 => .int
  | 6 => .boolean
  | _ => .boolean
abbrev wsX80 : List Cond := u_ws RX8 TX8 8
theorem nmX8 : ∀ a, a < 8 → ∀ b, b < 8 → a ≠ b → (TX8 a).2.1 ≠ (TX8 b).2.1 := by decide +kernel
theorem tyX8_ok : ∀ k, k < 8 → parseFieldDescriptor (TX8 k).2.2.1 = some (tyX8 k) := by decide +kernel
abbrev cX8_init : ByteArray := prog_10_method_1_code
def yX8_init : MethodName := ⟨RX8, "<init>", "()V"⟩
def RX9 : String := "CheckWeigherLaw$Home"
def TX9 : u_T := fun k => match k with
  | 0 => ("CheckWeigherLaw$Home", "speed", "I", false)
  | 1 => ("CheckWeigherLaw$Home", "begin", "I", false)
  | 2 => ("CheckWeigherLaw$Home", "end", "I", false)
  | 3 => ("CheckWeigherLaw$Home", "last", "I", false)
  | 4 => ("CheckWeigherLaw$Home", "low", "I", false)
  | 5 => ("CheckWeigherLaw$Home", "high", "I", false)
  | 6 => ("CheckWeigherLaw$Home", "window", "I", false)
  | 7 => ("CheckWeigherLaw$Home", "steady", "I", false)
  | 8 => ("CheckWeigherLaw$Home", "least", "I", false)
  | 9 => ("CheckWeigherLaw$Home", "drift", "I", false)
  | 10 => ("CheckWeigherLaw$Home", "per", "I", false)
  | 11 => ("CheckWeigherLaw$Home", "zero", "I", false)
  | 12 => ("CheckWeigherLaw$Home", "confirm", "I", false)
  | 13 => ("CheckWeigherLaw$Home", "time", "I", false)
  | 14 => ("CheckWeigherLaw$Home", "tare", "I", false)
  | 15 => ("CheckWeigherLaw$Home", "isNotch", "Z", false)
  | 16 => ("CheckWeigherLaw$Home", "shakes", "Ljava/util/ArrayList;", false)
  | 17 => ("CheckWeigherLaw$Home", "gates", "Ljava/util/ArrayList;", true)
  | 18 => ("CheckWeigherLaw$Home", "boxes", "Ljava/util/ArrayList;", true)
  | 19 => ("CheckWeigherLaw$Home", "samples", "Ljava/util/ArrayList;", false)
  | 20 => ("CheckWeigherLaw$Home", "loaded", "Ljava/util/ArrayList;", false)
  | _ => ("CheckWeigherLaw$Home", "due", "Ljava/util/ArrayList;", false)
def tyX9 : Nat → FieldType := fun k => match k with
  | 0 => .int
  | 1 => .int
  | 2 => .int
  | 3 => .int
  | 4 => .int
  | 5 => .int
  | 6 => .int
  | 7 => .int
  | 8 => .int
  | 9 => .int
  | 10 => .int
  | 11 => .int
  | 12 => .int
  | 13 => .int
  | 14 => .int
  | 15 => .boolean
  | 16 => .object "java/util/ArrayList"
  | 17 => .object "java/util/ArrayList"
  | 18 => .object "java/util/ArrayList"
  | 19 => .object "java/util/ArrayList"
  | 20 => .object "java/util/ArrayList"
  | _ => .object "java/util/ArrayList"
abbrev wsX90 : List Cond := u_ws RX9 TX9 22
theorem nmX9 : ∀ a, a < 22 → ∀ b, b < 22 → a ≠ b → (TX9 a).2.1 ≠ (TX9 b).2.1 := by decide +kernel
theorem tyX9_ok : ∀ k, k < 22 → parseFieldDescriptor (TX9 k).2.2.1 = some (tyX9 k) := by decide +kernel
abbrev cX9_init : ByteArray := prog_11_method_1_code
def yX9_init : MethodName := ⟨RX9, "<init>", "()V"⟩
abbrev cX9_shaken : ByteArray := prog_11_method_3_code
def yX9_shaken : MethodName := ⟨RX9, "shaken", "(I)I"⟩
abbrev cX9_windowNow : ByteArray := prog_11_method_4_code
def yX9_windowNow : MethodName := ⟨RX9, "windowNow", "()I"⟩
abbrev cX9_isPart : ByteArray := prog_11_method_5_code
def yX9_isPart : MethodName := ⟨RX9, "isPart", "(LCheckWeigherLaw$Box;)Z"⟩
abbrev cX9_isOpen : ByteArray := prog_11_method_6_code
def yX9_isOpen : MethodName := ⟨RX9, "isOpen", "(LCheckWeigherLaw$Gate;I)Z"⟩
abbrev cX9_latest : ByteArray := prog_11_method_7_code
def yX9_latest : MethodName := ⟨RX9, "latest", "(LCheckWeigherLaw$Box;I)Ljava/util/List;"⟩
abbrev cX9_mean : ByteArray := prog_11_method_8_code
def yX9_mean : MethodName := ⟨RX9, "mean", "(LCheckWeigherLaw$Box;I)I"⟩
abbrev cX9_decides : ByteArray := prog_11_method_9_code
def yX9_decides : MethodName := ⟨RX9, "decides", "(LCheckWeigherLaw$Box;)V"⟩
abbrev cX9_tick : ByteArray := prog_11_method_10_code
def yX9_tick : MethodName := ⟨RX9, "tick", "()I"⟩
abbrev cX9_zeroes : ByteArray := prog_11_method_11_code
def yX9_zeroes : MethodName := ⟨RX9, "zeroes", "()V"⟩
def RX10 : String := "CheckWeigherModel"
def TX10 : u_T := fun k => match k with
  | _ => ("", "", "", false)
def tyX10 : Nat → FieldType := fun k => match k with
  | _ => .int
abbrev wsX100 : List Cond := u_ws RX10 TX10 0
theorem nmX10 : ∀ a, a < 0 → ∀ b, b < 0 → a ≠ b → (TX10 a).2.1 ≠ (TX10 b).2.1 := by decide +kernel
theorem tyX10_ok : ∀ k, k < 0 → parseFieldDescriptor (TX10 k).2.2.1 = some (tyX10 k) := by decide +kernel
def RJx145de : String := "java/io/Serializable"
def TJx145de : u_T := fun k => match k with
  | _ => ("", "", "", false)
def tyJx145de : Nat → FieldType := fun k => match k with
  | _ => .int
abbrev wsJx145de0 : List Cond := u_ws RJx145de TJx145de 0
theorem nmJx145de : ∀ a, a < 0 → ∀ b, b < 0 → a ≠ b → (TJx145de a).2.1 ≠ (TJx145de b).2.1 := by decide +kernel
theorem tyJx145de_ok : ∀ k, k < 0 → parseFieldDescriptor (TJx145de k).2.2.1 = some (tyJx145de k) := by decide +kernel
def RJ5 : String := "java/lang/AbstractStringBuilder"
def TJ5 : u_T := fun k => match k with
  | _ => ("", "", "", false)
def tyJ5 : Nat → FieldType := fun k => match k with
  | _ => .int
abbrev wsJ50 : List Cond := u_ws RJ5 TJ5 0
theorem nmJ5 : ∀ a, a < 0 → ∀ b, b < 0 → a ≠ b → (TJ5 a).2.1 ≠ (TJ5 b).2.1 := by decide +kernel
theorem tyJ5_ok : ∀ k, k < 0 → parseFieldDescriptor (TJ5 k).2.2.1 = some (tyJ5 k) := by decide +kernel
abbrev cJ5_init_d00df : ByteArray := prog_14_method_2_code
def yJ5_init_d00df : MethodName := ⟨RJ5, "<init>", "(I)V"⟩
abbrev cJ5_init_a7421 : ByteArray := prog_14_method_3_code
def yJ5_init_a7421 : MethodName := ⟨RJ5, "<init>", "(Ljava/lang/String;)V"⟩
abbrev cJ5_compareTo_759ea : ByteArray := prog_14_method_5_code
def yJ5_compareTo_759ea : MethodName := ⟨RJ5, "compareTo", "(Ljava/lang/AbstractStringBuilder;)I"⟩
abbrev cJ5_length_8abf5 : ByteArray := prog_14_method_6_code
def yJ5_length_8abf5 : MethodName := ⟨RJ5, "length", "()I"⟩
abbrev cJ5_ensureCapacityInternal_d00df : ByteArray := prog_14_method_9_code
def yJ5_ensureCapacityInternal_d00df : MethodName := ⟨RJ5, "ensureCapacityInternal", "(I)V"⟩
abbrev cJ5_newCapacity_0f7a4 : ByteArray := prog_14_method_10_code
def yJ5_newCapacity_0f7a4 : MethodName := ⟨RJ5, "newCapacity", "(I)I"⟩
abbrev cJ5_inflate_da8c8 : ByteArray := prog_14_method_11_code
def yJ5_inflate_da8c8 : MethodName := ⟨RJ5, "inflate", "()V"⟩
abbrev cJ5_append_cf1ce : ByteArray := prog_14_method_22_code
def yJ5_append_cf1ce : MethodName := ⟨RJ5, "append", "(Ljava/lang/String;)Ljava/lang/AbstractStringBuilder;"⟩
abbrev cJ5_appendNull_278bc : ByteArray := prog_14_method_26_code
def yJ5_appendNull_278bc : MethodName := ⟨RJ5, "appendNull", "()Ljava/lang/AbstractStringBuilder;"⟩
abbrev cJ5_append_3fe6f : ByteArray := prog_14_method_31_code
def yJ5_append_3fe6f : MethodName := ⟨RJ5, "append", "(C)Ljava/lang/AbstractStringBuilder;"⟩
abbrev cJ5_append_c97b9 : ByteArray := prog_14_method_32_code
def yJ5_append_c97b9 : MethodName := ⟨RJ5, "append", "(I)Ljava/lang/AbstractStringBuilder;"⟩
abbrev cJ5_getValue_6d5f1 : ByteArray := prog_14_method_64_code
def yJ5_getValue_6d5f1 : MethodName := ⟨RJ5, "getValue", "()[B"⟩
abbrev cJ5_isLatin1_aae02 : ByteArray := prog_14_method_68_code
def yJ5_isLatin1_aae02 : MethodName := ⟨RJ5, "isLatin1", "()Z"⟩
abbrev cJ5_inflateIfNeededFor_a7421 : ByteArray := prog_14_method_71_code
def yJ5_inflateIfNeededFor_a7421 : MethodName := ⟨RJ5, "inflateIfNeededFor", "(Ljava/lang/String;)V"⟩
abbrev cJ5_putStringAt_47b60 : ByteArray := prog_14_method_73_code
def yJ5_putStringAt_47b60 : MethodName := ⟨RJ5, "putStringAt", "(ILjava/lang/String;)V"⟩
def RJx2cfe8 : String := "java/lang/Appendable"
def TJx2cfe8 : u_T := fun k => match k with
  | _ => ("", "", "", false)
def tyJx2cfe8 : Nat → FieldType := fun k => match k with
  | _ => .int
abbrev wsJx2cfe80 : List Cond := u_ws RJx2cfe8 TJx2cfe8 0
theorem nmJx2cfe8 : ∀ a, a < 0 → ∀ b, b < 0 → a ≠ b → (TJx2cfe8 a).2.1 ≠ (TJx2cfe8 b).2.1 := by decide +kernel
theorem tyJx2cfe8_ok : ∀ k, k < 0 → parseFieldDescriptor (TJx2cfe8 k).2.2.1 = some (tyJx2cfe8 k) := by decide +kernel
def RJ14 : String := "java/lang/Boolean"
def TJ14 : u_T := fun k => match k with
  | _ => ("", "", "", false)
def tyJ14 : Nat → FieldType := fun k => match k with
  | _ => .int
abbrev wsJ140 : List Cond := u_ws RJ14 TJ14 0
theorem nmJ14 : ∀ a, a < 0 → ∀ b, b < 0 → a ≠ b → (TJ14 a).2.1 ≠ (TJ14 b).2.1 := by decide +kernel
theorem tyJ14_ok : ∀ k, k < 0 → parseFieldDescriptor (TJ14 k).2.2.1 = some (tyJ14 k) := by decide +kernel
abbrev cJ14_booleanValue_aae02 : ByteArray := prog_16_method_4_code
def yJ14_booleanValue_aae02 : MethodName := ⟨RJ14, "booleanValue", "()Z"⟩
abbrev cJ14_valueOf_4531c : ByteArray := prog_16_method_5_code
def yJ14_valueOf_4531c : MethodName := ⟨RJ14, "valueOf", "(Z)Ljava/lang/Boolean;"⟩
abbrev cJ14_equals_9ea2d : ByteArray := prog_16_method_11_code
def yJ14_equals_9ea2d : MethodName := ⟨RJ14, "equals", "(Ljava/lang/Object;)Z"⟩
abbrev cJ14_compareTo_53145 : ByteArray := prog_16_method_13_code
def yJ14_compareTo_53145 : MethodName := ⟨RJ14, "compareTo", "(Ljava/lang/Boolean;)I"⟩
abbrev cJ14_compare_aa22b : ByteArray := prog_16_method_14_code
def yJ14_compare_aa22b : MethodName := ⟨RJ14, "compare", "(ZZ)I"⟩
abbrev cJ14_compareTo_e47da : ByteArray := prog_16_method_19_code
def yJ14_compareTo_e47da : MethodName := ⟨RJ14, "compareTo", "(Ljava/lang/Object;)I"⟩
def RJx9f9b0 : String := "java/lang/CharSequence"
def TJx9f9b0 : u_T := fun k => match k with
  | _ => ("", "", "", false)
def tyJx9f9b0 : Nat → FieldType := fun k => match k with
  | _ => .int
abbrev wsJx9f9b00 : List Cond := u_ws RJx9f9b0 TJx9f9b0 0
theorem nmJx9f9b0 : ∀ a, a < 0 → ∀ b, b < 0 → a ≠ b → (TJx9f9b0 a).2.1 ≠ (TJx9f9b0 b).2.1 := by decide +kernel
theorem tyJx9f9b0_ok : ∀ k, k < 0 → parseFieldDescriptor (TJx9f9b0 k).2.2.1 = some (tyJx9f9b0 k) := by decide +kernel
def RJx8e188 : String := "java/lang/Cloneable"
def TJx8e188 : u_T := fun k => match k with
  | _ => ("", "", "", false)
def tyJx8e188 : Nat → FieldType := fun k => match k with
  | _ => .int
abbrev wsJx8e1880 : List Cond := u_ws RJx8e188 TJx8e188 0
theorem nmJx8e188 : ∀ a, a < 0 → ∀ b, b < 0 → a ≠ b → (TJx8e188 a).2.1 ≠ (TJx8e188 b).2.1 := by decide +kernel
theorem tyJx8e188_ok : ∀ k, k < 0 → parseFieldDescriptor (TJx8e188 k).2.2.1 = some (tyJx8e188 k) := by decide +kernel
def RJxb160c : String := "java/lang/Comparable"
def TJxb160c : u_T := fun k => match k with
  | _ => ("", "", "", false)
def tyJxb160c : Nat → FieldType := fun k => match k with
  | _ => .int
abbrev wsJxb160c0 : List Cond := u_ws RJxb160c TJxb160c 0
theorem nmJxb160c : ∀ a, a < 0 → ∀ b, b < 0 → a ≠ b → (TJxb160c a).2.1 ≠ (TJxb160c b).2.1 := by decide +kernel
theorem tyJxb160c_ok : ∀ k, k < 0 → parseFieldDescriptor (TJxb160c k).2.2.1 = some (tyJxb160c k) := by decide +kernel
def RJxabbfe : String := "java/lang/Integer$IntegerCache"
def TJxabbfe : u_T := fun k => match k with
  | _ => ("", "", "", false)
def tyJxabbfe : Nat → FieldType := fun k => match k with
  | _ => .int
abbrev wsJxabbfe0 : List Cond := u_ws RJxabbfe TJxabbfe 0
theorem nmJxabbfe : ∀ a, a < 0 → ∀ b, b < 0 → a ≠ b → (TJxabbfe a).2.1 ≠ (TJxabbfe b).2.1 := by decide +kernel
theorem tyJxabbfe_ok : ∀ k, k < 0 → parseFieldDescriptor (TJxabbfe k).2.2.1 = some (tyJxabbfe k) := by decide +kernel
def RJ6 : String := "java/lang/Integer"
def TJ6 : u_T := fun k => match k with
  | _ => ("java/lang/Integer", "value", "I", true)
def tyJ6 : Nat → FieldType := fun k => match k with
  | _ => .int
abbrev wsJ60 : List Cond := u_ws RJ6 TJ6 1
theorem nmJ6 : ∀ a, a < 1 → ∀ b, b < 1 → a ≠ b → (TJ6 a).2.1 ≠ (TJ6 b).2.1 := by decide +kernel
theorem tyJ6_ok : ∀ k, k < 1 → parseFieldDescriptor (TJ6 k).2.2.1 = some (tyJ6 k) := by decide +kernel
abbrev cJ6_getChars_ba4f3 : ByteArray := prog_24_method_12_code
def yJ6_getChars_ba4f3 : MethodName := ⟨RJ6, "getChars", "(II[B)I"⟩
abbrev cJ6_stringSize_0f7a4 : ByteArray := prog_24_method_13_code
def yJ6_stringSize_0f7a4 : MethodName := ⟨RJ6, "stringSize", "(I)I"⟩
abbrev cJ6_valueOf_2dffe : ByteArray := prog_24_method_22_code
def yJ6_valueOf_2dffe : MethodName := ⟨RJ6, "valueOf", "(I)Ljava/lang/Integer;"⟩
abbrev cJ6_init_d00df : ByteArray := prog_24_method_23_code
def yJ6_init_d00df : MethodName := ⟨RJ6, "<init>", "(I)V"⟩
abbrev cJ6_intValue_8abf5 : ByteArray := prog_24_method_27_code
def yJ6_intValue_8abf5 : MethodName := ⟨RJ6, "intValue", "()I"⟩
abbrev cJ6_equals_9ea2d : ByteArray := prog_24_method_34_code
def yJ6_equals_9ea2d : MethodName := ⟨RJ6, "equals", "(Ljava/lang/Object;)Z"⟩
abbrev cJ6_compareTo_e8194 : ByteArray := prog_24_method_39_code
def yJ6_compareTo_e8194 : MethodName := ⟨RJ6, "compareTo", "(Ljava/lang/Integer;)I"⟩
abbrev cJ6_compare_7cf53 : ByteArray := prog_24_method_40_code
def yJ6_compare_7cf53 : MethodName := ⟨RJ6, "compare", "(II)I"⟩
abbrev cJ6_numberOfLeadingZeros_0f7a4 : ByteArray := prog_24_method_47_code
def yJ6_numberOfLeadingZeros_0f7a4 : MethodName := ⟨RJ6, "numberOfLeadingZeros", "(I)I"⟩
abbrev cJ6_numberOfTrailingZeros_0f7a4 : ByteArray := prog_24_method_48_code
def yJ6_numberOfTrailingZeros_0f7a4 : MethodName := ⟨RJ6, "numberOfTrailingZeros", "(I)I"⟩
abbrev cJ6_compareTo_e47da : ByteArray := prog_24_method_63_code
def yJ6_compareTo_e47da : MethodName := ⟨RJ6, "compareTo", "(Ljava/lang/Object;)I"⟩
def RJxab1ab : String := "java/lang/Iterable"
def TJxab1ab : u_T := fun k => match k with
  | _ => ("", "", "", false)
def tyJxab1ab : Nat → FieldType := fun k => match k with
  | _ => .int
abbrev wsJxab1ab0 : List Cond := u_ws RJxab1ab TJxab1ab 0
theorem nmJxab1ab : ∀ a, a < 0 → ∀ b, b < 0 → a ≠ b → (TJxab1ab a).2.1 ≠ (TJxab1ab b).2.1 := by decide +kernel
theorem tyJxab1ab_ok : ∀ k, k < 0 → parseFieldDescriptor (TJxab1ab k).2.2.1 = some (tyJxab1ab k) := by decide +kernel
def RJ13 : String := "java/lang/Long"
def TJ13 : u_T := fun k => match k with
  | _ => ("", "", "", false)
def tyJ13 : Nat → FieldType := fun k => match k with
  | _ => .int
abbrev wsJ130 : List Cond := u_ws RJ13 TJ13 0
theorem nmJ13 : ∀ a, a < 0 → ∀ b, b < 0 → a ≠ b → (TJ13 a).2.1 ≠ (TJ13 b).2.1 := by decide +kernel
theorem tyJ13_ok : ∀ k, k < 0 → parseFieldDescriptor (TJ13 k).2.2.1 = some (tyJ13 k) := by decide +kernel
abbrev cJ13_numberOfLeadingZeros_95d88 : ByteArray := prog_27_method_48_code
def yJ13_numberOfLeadingZeros_95d88 : MethodName := ⟨RJ13, "numberOfLeadingZeros", "(J)I"⟩
abbrev cJ13_numberOfTrailingZeros_95d88 : ByteArray := prog_27_method_49_code
def yJ13_numberOfTrailingZeros_95d88 : MethodName := ⟨RJ13, "numberOfTrailingZeros", "(J)I"⟩
def RJ9 : String := "java/lang/Math"
def TJ9 : u_T := fun k => match k with
  | _ => ("", "", "", false)
def tyJ9 : Nat → FieldType := fun k => match k with
  | _ => .int
abbrev wsJ90 : List Cond := u_ws RJ9 TJ9 0
theorem nmJ9 : ∀ a, a < 0 → ∀ b, b < 0 → a ≠ b → (TJ9 a).2.1 ≠ (TJ9 b).2.1 := by decide +kernel
theorem tyJ9_ok : ∀ k, k < 0 → parseFieldDescriptor (TJ9 k).2.2.1 = some (tyJ9 k) := by decide +kernel
abbrev cJ9_abs_0f7a4 : ByteArray := prog_28_method_59_code
def yJ9_abs_0f7a4 : MethodName := ⟨RJ9, "abs", "(I)I"⟩
abbrev cJ9_max_7cf53 : ByteArray := prog_28_method_65_code
def yJ9_max_7cf53 : MethodName := ⟨RJ9, "max", "(II)I"⟩
abbrev cJ9_min_7cf53 : ByteArray := prog_28_method_69_code
def yJ9_min_7cf53 : MethodName := ⟨RJ9, "min", "(II)I"⟩
def RJxd2413 : String := "java/lang/Number"
def TJxd2413 : u_T := fun k => match k with
  | _ => ("", "", "", false)
def tyJxd2413 : Nat → FieldType := fun k => match k with
  | _ => .int
abbrev wsJxd24130 : List Cond := u_ws RJxd2413 TJxd2413 0
theorem nmJxd2413 : ∀ a, a < 0 → ∀ b, b < 0 → a ≠ b → (TJxd2413 a).2.1 ≠ (TJxd2413 b).2.1 := by decide +kernel
theorem tyJxd2413_ok : ∀ k, k < 0 → parseFieldDescriptor (TJxd2413 k).2.2.1 = some (tyJxd2413 k) := by decide +kernel
abbrev cJxd2413_init_da8c8 : ByteArray := prog_29_method_1_code
def yJxd2413_init_da8c8 : MethodName := ⟨RJxd2413, "<init>", "()V"⟩
def RJ0 : String := "java/lang/String"
def TJ0 : u_T := fun k => match k with
  | 0 => ("java/lang/String", "value", "[B", true)
  | 1 => ("java/lang/String", "coder", "B", true)
  | 2 => ("java/lang/String", "hash", "I", false)
  | _ => ("java/lang/String", "hashIsZero", "Z", false)
def tyJ0 : Nat → FieldType := fun k => match k with
  | 0 => .array .byte
  | 1 => .byte
  | 2 => .int
  | _ => .boolean
abbrev wsJ00 : List Cond := u_ws RJ0 TJ0 4
theorem nmJ0 : ∀ a, a < 4 → ∀ b, b < 4 → a ≠ b → (TJ0 a).2.1 ≠ (TJ0 b).2.1 := by decide +kernel
theorem tyJ0_ok : ∀ k, k < 4 → parseFieldDescriptor (TJ0 k).2.2.1 = some (tyJ0 k) := by decide +kernel
abbrev cJ0_init_81219 : ByteArray := prog_31_method_53_code
def yJ0_init_81219 : MethodName := ⟨RJ0, "<init>", "(Ljava/lang/StringBuilder;)V"⟩
abbrev cJ0_length_8abf5 : ByteArray := prog_31_method_54_code
def yJ0_length_8abf5 : MethodName := ⟨RJ0, "length", "()I"⟩
abbrev cJ0_charAt_5068e : ByteArray := prog_31_method_56_code
def yJ0_charAt_5068e : MethodName := ⟨RJ0, "charAt", "(I)C"⟩
abbrev cJ0_equals_9ea2d : ByteArray := prog_31_method_66_code
def yJ0_equals_9ea2d : MethodName := ⟨RJ0, "equals", "(Ljava/lang/Object;)Z"⟩
abbrev cJ0_compareTo_2f485 : ByteArray := prog_31_method_71_code
def yJ0_compareTo_2f485 : MethodName := ⟨RJ0, "compareTo", "(Ljava/lang/String;)I"⟩
abbrev cJ0_getBytes_840e7 : ByteArray := prog_31_method_147_code
def yJ0_getBytes_840e7 : MethodName := ⟨RJ0, "getBytes", "([BIB)V"⟩
abbrev cJ0_init_db425 : ByteArray := prog_31_method_150_code
def yJ0_init_db425 : MethodName := ⟨RJ0, "<init>", "(Ljava/lang/AbstractStringBuilder;Ljava/lang/Void;)V"⟩
abbrev cJ0_coder_7d493 : ByteArray := prog_31_method_152_code
def yJ0_coder_7d493 : MethodName := ⟨RJ0, "coder", "()B"⟩
abbrev cJ0_isLatin1_aae02 : ByteArray := prog_31_method_154_code
def yJ0_isLatin1_aae02 : MethodName := ⟨RJ0, "isLatin1", "()Z"⟩
abbrev cJ0_checkIndex_df160 : ByteArray := prog_31_method_155_code
def yJ0_checkIndex_df160 : MethodName := ⟨RJ0, "checkIndex", "(II)V"⟩
abbrev cJ0_checkOffset_df160 : ByteArray := prog_31_method_156_code
def yJ0_checkOffset_df160 : MethodName := ⟨RJ0, "checkOffset", "(II)V"⟩
abbrev cJ0_checkBoundsOffCount_cabcc : ByteArray := prog_31_method_157_code
def yJ0_checkBoundsOffCount_cabcc : MethodName := ⟨RJ0, "checkBoundsOffCount", "(III)I"⟩
abbrev cJ0_checkBoundsBeginEnd_23922 : ByteArray := prog_31_method_158_code
def yJ0_checkBoundsBeginEnd_23922 : MethodName := ⟨RJ0, "checkBoundsBeginEnd", "(III)V"⟩
abbrev cJ0_compareTo_e47da : ByteArray := prog_31_method_162_code
def yJ0_compareTo_e47da : MethodName := ⟨RJ0, "compareTo", "(Ljava/lang/Object;)I"⟩
def RJ4 : String := "java/lang/StringBuilder"
def TJ4 : u_T := fun k => match k with
  | 0 => ("java/lang/AbstractStringBuilder", "value", "[B", false)
  | 1 => ("java/lang/AbstractStringBuilder", "coder", "B", false)
  | 2 => ("java/lang/AbstractStringBuilder", "maybeLatin1", "Z", false)
  | _ => ("java/lang/AbstractStringBuilder", "count", "I", false)
def tyJ4 : Nat → FieldType := fun k => match k with
  | 0 => .array .byte
  | 1 => .byte
  | 2 => .boolean
  | _ => .int
abbrev wsJ40 : List Cond := u_ws RJ4 TJ4 4
theorem nmJ4 : ∀ a, a < 4 → ∀ b, b < 4 → a ≠ b → (TJ4 a).2.1 ≠ (TJ4 b).2.1 := by decide +kernel
theorem tyJ4_ok : ∀ k, k < 4 → parseFieldDescriptor (TJ4 k).2.2.1 = some (tyJ4 k) := by decide +kernel
abbrev cJ4_init_da8c8 : ByteArray := prog_32_method_1_code
def yJ4_init_da8c8 : MethodName := ⟨RJ4, "<init>", "()V"⟩
abbrev cJ4_init_a7421 : ByteArray := prog_32_method_3_code
def yJ4_init_a7421 : MethodName := ⟨RJ4, "<init>", "(Ljava/lang/String;)V"⟩
abbrev cJ4_compareTo_93759 : ByteArray := prog_32_method_5_code
def yJ4_compareTo_93759 : MethodName := ⟨RJ4, "compareTo", "(Ljava/lang/StringBuilder;)I"⟩
abbrev cJ4_append_15ec4 : ByteArray := prog_32_method_7_code
def yJ4_append_15ec4 : MethodName := ⟨RJ4, "append", "(Ljava/lang/String;)Ljava/lang/StringBuilder;"⟩
abbrev cJ4_append_cf468 : ByteArray := prog_32_method_14_code
def yJ4_append_cf468 : MethodName := ⟨RJ4, "append", "(C)Ljava/lang/StringBuilder;"⟩
abbrev cJ4_append_bf812 : ByteArray := prog_32_method_15_code
def yJ4_append_bf812 : MethodName := ⟨RJ4, "append", "(I)Ljava/lang/StringBuilder;"⟩
abbrev cJ4_toString_0e30d : ByteArray := prog_32_method_42_code
def yJ4_toString_0e30d : MethodName := ⟨RJ4, "toString", "()Ljava/lang/String;"⟩
abbrev cJ4_append_cf1ce : ByteArray := prog_32_method_80_code
def yJ4_append_cf1ce : MethodName := ⟨RJ4, "append", "(Ljava/lang/String;)Ljava/lang/AbstractStringBuilder;"⟩
abbrev cJ4_length_8abf5 : ByteArray := prog_32_method_93_code
def yJ4_length_8abf5 : MethodName := ⟨RJ4, "length", "()I"⟩
abbrev cJ4_compareTo_e47da : ByteArray := prog_32_method_97_code
def yJ4_compareTo_e47da : MethodName := ⟨RJ4, "compareTo", "(Ljava/lang/Object;)I"⟩
def RJ1 : String := "java/lang/StringLatin1"
def TJ1 : u_T := fun k => match k with
  | _ => ("", "", "", false)
def tyJ1 : Nat → FieldType := fun k => match k with
  | _ => .int
abbrev wsJ10 : List Cond := u_ws RJ1 TJ1 0
theorem nmJ1 : ∀ a, a < 0 → ∀ b, b < 0 → a ≠ b → (TJ1 a).2.1 ≠ (TJ1 b).2.1 := by decide +kernel
theorem tyJ1_ok : ∀ k, k < 0 → parseFieldDescriptor (TJ1 k).2.2.1 = some (tyJ1 k) := by decide +kernel
abbrev cJ1_charAt_3b067 : ByteArray := prog_33_method_2_code
def yJ1_charAt_3b067 : MethodName := ⟨RJ1, "charAt", "([BI)C"⟩
abbrev cJ1_canEncode_fc78d : ByteArray := prog_33_method_3_code
def yJ1_canEncode_fc78d : MethodName := ⟨RJ1, "canEncode", "(C)Z"⟩
abbrev cJ1_length_9d52b : ByteArray := prog_33_method_5_code
def yJ1_length_9d52b : MethodName := ⟨RJ1, "length", "([B)I"⟩
abbrev cJ1_equals_b5fdf : ByteArray := prog_33_method_13_code
def yJ1_equals_b5fdf : MethodName := ⟨RJ1, "equals", "([B[B)Z"⟩
abbrev cJ1_compareTo_b82b6 : ByteArray := prog_33_method_14_code
def yJ1_compareTo_b82b6 : MethodName := ⟨RJ1, "compareTo", "([B[B)I"⟩
abbrev cJ1_compareTo_66405 : ByteArray := prog_33_method_15_code
def yJ1_compareTo_66405 : MethodName := ⟨RJ1, "compareTo", "([B[BII)I"⟩
abbrev cJ1_compareToUTF16_b82b6 : ByteArray := prog_33_method_16_code
def yJ1_compareToUTF16_b82b6 : MethodName := ⟨RJ1, "compareToUTF16", "([B[B)I"⟩
abbrev cJ1_compareToUTF16_66405 : ByteArray := prog_33_method_17_code
def yJ1_compareToUTF16_66405 : MethodName := ⟨RJ1, "compareToUTF16", "([B[BII)I"⟩
abbrev cJ1_compareToUTF16Values_66405 : ByteArray := prog_33_method_18_code
def yJ1_compareToUTF16Values_66405 : MethodName := ⟨RJ1, "compareToUTF16Values", "([B[BII)I"⟩
abbrev cJ1_getChar_3b067 : ByteArray := prog_33_method_44_code
def yJ1_getChar_3b067 : MethodName := ⟨RJ1, "getChar", "([BI)C"⟩
abbrev cJ1_inflate_0e8fd : ByteArray := prog_33_method_50_code
def yJ1_inflate_0e8fd : MethodName := ⟨RJ1, "inflate", "([BI[BII)V"⟩
def RJ2 : String := "java/lang/StringUTF16"
def TJ2 : u_T := fun k => match k with
  | _ => ("", "", "", false)
def tyJ2 : Nat → FieldType := fun k => match k with
  | _ => .int
abbrev wsJ20 : List Cond := u_ws RJ2 TJ2 0
theorem nmJ2 : ∀ a, a < 0 → ∀ b, b < 0 → a ≠ b → (TJ2 a).2.1 ≠ (TJ2 b).2.1 := by decide +kernel
theorem tyJ2_ok : ∀ k, k < 0 → parseFieldDescriptor (TJ2 k).2.2.1 = some (tyJ2 k) := by decide +kernel
abbrev cJ2_newBytesFor_77867 : ByteArray := prog_34_method_2_code
def yJ2_newBytesFor_77867 : MethodName := ⟨RJ2, "newBytesFor", "(I)[B"⟩
abbrev cJ2_newBytesLength_0f7a4 : ByteArray := prog_34_method_3_code
def yJ2_newBytesLength_0f7a4 : MethodName := ⟨RJ2, "newBytesLength", "(I)I"⟩
abbrev cJ2_putChar_b72d1 : ByteArray := prog_34_method_4_code
def yJ2_putChar_b72d1 : MethodName := ⟨RJ2, "putChar", "([BII)V"⟩
abbrev cJ2_getChar_3b067 : ByteArray := prog_34_method_5_code
def yJ2_getChar_3b067 : MethodName := ⟨RJ2, "getChar", "([BI)C"⟩
abbrev cJ2_length_9d52b : ByteArray := prog_34_method_6_code
def yJ2_length_9d52b : MethodName := ⟨RJ2, "length", "([B)I"⟩
abbrev cJ2_coderFromArrayLen_85cad : ByteArray := prog_34_method_15_code
def yJ2_coderFromArrayLen_85cad : MethodName := ⟨RJ2, "coderFromArrayLen", "([BI)B"⟩
abbrev cJ2_compress_39247 : ByteArray := prog_34_method_17_code
def yJ2_compress_39247 : MethodName := ⟨RJ2, "compress", "([BII)[B"⟩
abbrev cJ2_compress_5af95 : ByteArray := prog_34_method_22_code
def yJ2_compress_5af95 : MethodName := ⟨RJ2, "compress", "([BI[BII)I"⟩
abbrev cJ2_compareTo_b82b6 : ByteArray := prog_34_method_29_code
def yJ2_compareTo_b82b6 : MethodName := ⟨RJ2, "compareTo", "([B[B)I"⟩
abbrev cJ2_compareTo_66405 : ByteArray := prog_34_method_30_code
def yJ2_compareTo_66405 : MethodName := ⟨RJ2, "compareTo", "([B[BII)I"⟩
abbrev cJ2_compareValues_66405 : ByteArray := prog_34_method_31_code
def yJ2_compareValues_66405 : MethodName := ⟨RJ2, "compareValues", "([B[BII)I"⟩
abbrev cJ2_compareToLatin1_b82b6 : ByteArray := prog_34_method_32_code
def yJ2_compareToLatin1_b82b6 : MethodName := ⟨RJ2, "compareToLatin1", "([B[B)I"⟩
abbrev cJ2_compareToLatin1_66405 : ByteArray := prog_34_method_33_code
def yJ2_compareToLatin1_66405 : MethodName := ⟨RJ2, "compareToLatin1", "([B[BII)I"⟩
abbrev cJ2_putCharSB_b72d1 : ByteArray := prog_34_method_71_code
def yJ2_putCharSB_b72d1 : MethodName := ⟨RJ2, "putCharSB", "([BII)V"⟩
abbrev cJ2_getChars_46870 : ByteArray := prog_34_method_77_code
def yJ2_getChars_46870 : MethodName := ⟨RJ2, "getChars", "(III[B)I"⟩
abbrev cJ2_putCharsAt_cd4e5 : ByteArray := prog_34_method_81_code
def yJ2_putCharsAt_cd4e5 : MethodName := ⟨RJ2, "putCharsAt", "([BICCCC)I"⟩
abbrev cJ2_charAt_3b067 : ByteArray := prog_34_method_83_code
def yJ2_charAt_3b067 : MethodName := ⟨RJ2, "charAt", "([BI)C"⟩
abbrev cJ2_inflate_0e8fd : ByteArray := prog_34_method_86_code
def yJ2_inflate_0e8fd : MethodName := ⟨RJ2, "inflate", "([BI[BII)V"⟩
abbrev cJ2_getChars_ba4f3 : ByteArray := prog_34_method_89_code
def yJ2_getChars_ba4f3 : MethodName := ⟨RJ2, "getChars", "(II[B)I"⟩
abbrev cJ2_checkIndex_2214a : ByteArray := prog_34_method_91_code
def yJ2_checkIndex_2214a : MethodName := ⟨RJ2, "checkIndex", "(I[B)V"⟩
abbrev cJ2_checkOffset_2214a : ByteArray := prog_34_method_92_code
def yJ2_checkOffset_2214a : MethodName := ⟨RJ2, "checkOffset", "(I[B)V"⟩
abbrev cJ2_checkBoundsBeginEnd_d044e : ByteArray := prog_34_method_93_code
def yJ2_checkBoundsBeginEnd_d044e : MethodName := ⟨RJ2, "checkBoundsBeginEnd", "(II[B)V"⟩
abbrev cJ2_checkBoundsOffCount_d044e : ByteArray := prog_34_method_94_code
def yJ2_checkBoundsOffCount_d044e : MethodName := ⟨RJ2, "checkBoundsOffCount", "(II[B)V"⟩
def RJ10 : String := "java/lang/System"
def TJ10 : u_T := fun k => match k with
  | _ => ("", "", "", false)
def tyJ10 : Nat → FieldType := fun k => match k with
  | _ => .int
abbrev wsJ100 : List Cond := u_ws RJ10 TJ10 0
theorem nmJ10 : ∀ a, a < 0 → ∀ b, b < 0 → a ≠ b → (TJ10 a).2.1 ≠ (TJ10 b).2.1 := by decide +kernel
theorem tyJ10_ok : ∀ k, k < 0 → parseFieldDescriptor (TJ10 k).2.2.1 = some (tyJ10 k) := by decide +kernel
def RJxfd54e : String := "java/lang/constant/Constable"
def TJxfd54e : u_T := fun k => match k with
  | _ => ("", "", "", false)
def tyJxfd54e : Nat → FieldType := fun k => match k with
  | _ => .int
abbrev wsJxfd54e0 : List Cond := u_ws RJxfd54e TJxfd54e 0
theorem nmJxfd54e : ∀ a, a < 0 → ∀ b, b < 0 → a ≠ b → (TJxfd54e a).2.1 ≠ (TJxfd54e b).2.1 := by decide +kernel
theorem tyJxfd54e_ok : ∀ k, k < 0 → parseFieldDescriptor (TJxfd54e k).2.2.1 = some (tyJxfd54e k) := by decide +kernel
def RJx3cf43 : String := "java/lang/constant/ConstantDesc"
def TJx3cf43 : u_T := fun k => match k with
  | _ => ("", "", "", false)
def tyJx3cf43 : Nat → FieldType := fun k => match k with
  | _ => .int
abbrev wsJx3cf430 : List Cond := u_ws RJx3cf43 TJx3cf43 0
theorem nmJx3cf43 : ∀ a, a < 0 → ∀ b, b < 0 → a ≠ b → (TJx3cf43 a).2.1 ≠ (TJx3cf43 b).2.1 := by decide +kernel
theorem tyJx3cf43_ok : ∀ k, k < 0 → parseFieldDescriptor (TJx3cf43 k).2.2.1 = some (tyJx3cf43 k) := by decide +kernel
def RJxa1e45 : String := "java/util/AbstractCollection"
def TJxa1e45 : u_T := fun k => match k with
  | _ => ("", "", "", false)
def tyJxa1e45 : Nat → FieldType := fun k => match k with
  | _ => .int
abbrev wsJxa1e450 : List Cond := u_ws RJxa1e45 TJxa1e45 0
theorem nmJxa1e45 : ∀ a, a < 0 → ∀ b, b < 0 → a ≠ b → (TJxa1e45 a).2.1 ≠ (TJxa1e45 b).2.1 := by decide +kernel
theorem tyJxa1e45_ok : ∀ k, k < 0 → parseFieldDescriptor (TJxa1e45 k).2.2.1 = some (tyJxa1e45 k) := by decide +kernel
abbrev cJxa1e45_init_da8c8 : ByteArray := prog_39_method_1_code
def yJxa1e45_init_da8c8 : MethodName := ⟨RJxa1e45, "<init>", "()V"⟩
def RJx8005f : String := "java/util/AbstractList$Itr"
def TJx8005f : u_T := fun k => match k with
  | _ => ("", "", "", false)
def tyJx8005f : Nat → FieldType := fun k => match k with
  | _ => .int
abbrev wsJx8005f0 : List Cond := u_ws RJx8005f TJx8005f 0
theorem nmJx8005f : ∀ a, a < 0 → ∀ b, b < 0 → a ≠ b → (TJx8005f a).2.1 ≠ (TJx8005f b).2.1 := by decide +kernel
theorem tyJx8005f_ok : ∀ k, k < 0 → parseFieldDescriptor (TJx8005f k).2.2.1 = some (tyJx8005f k) := by decide +kernel
abbrev cJx8005f_hasNext_aae02 : ByteArray := prog_41_method_2_code
def yJx8005f_hasNext_aae02 : MethodName := ⟨RJx8005f, "hasNext", "()Z"⟩
abbrev cJx8005f_next_0502b : ByteArray := prog_41_method_3_code
def yJx8005f_next_0502b : MethodName := ⟨RJx8005f, "next", "()Ljava/lang/Object;"⟩
abbrev cJx8005f_checkForComodification_da8c8 : ByteArray := prog_41_method_5_code
def yJx8005f_checkForComodification_da8c8 : MethodName := ⟨RJx8005f, "checkForComodification", "()V"⟩
def RJxd8c48 : String := "java/util/AbstractList$ListItr"
def TJxd8c48 : u_T := fun k => match k with
  | _ => ("", "", "", false)
def tyJxd8c48 : Nat → FieldType := fun k => match k with
  | _ => .int
abbrev wsJxd8c480 : List Cond := u_ws RJxd8c48 TJxd8c48 0
theorem nmJxd8c48 : ∀ a, a < 0 → ∀ b, b < 0 → a ≠ b → (TJxd8c48 a).2.1 ≠ (TJxd8c48 b).2.1 := by decide +kernel
theorem tyJxd8c48_ok : ∀ k, k < 0 → parseFieldDescriptor (TJxd8c48 k).2.2.1 = some (tyJxd8c48 k) := by decide +kernel
def RJxc12de : String := "java/util/AbstractList"
def TJxc12de : u_T := fun k => match k with
  | _ => ("", "", "", false)
def tyJxc12de : Nat → FieldType := fun k => match k with
  | _ => .int
abbrev wsJxc12de0 : List Cond := u_ws RJxc12de TJxc12de 0
theorem nmJxc12de : ∀ a, a < 0 → ∀ b, b < 0 → a ≠ b → (TJxc12de a).2.1 ≠ (TJxc12de b).2.1 := by decide +kernel
theorem tyJxc12de_ok : ∀ k, k < 0 → parseFieldDescriptor (TJxc12de k).2.2.1 = some (tyJxc12de k) := by decide +kernel
abbrev cJxc12de_init_da8c8 : ByteArray := prog_40_method_1_code
def yJxc12de_init_da8c8 : MethodName := ⟨RJxc12de, "<init>", "()V"⟩
abbrev cJxc12de_listIterator_b82c4 : ByteArray := prog_40_method_12_code
def yJxc12de_listIterator_b82c4 : MethodName := ⟨RJxc12de, "listIterator", "()Ljava/util/ListIterator;"⟩
abbrev cJxc12de_subListRangeCheck_23922 : ByteArray := prog_40_method_15_code
def yJxc12de_subListRangeCheck_23922 : MethodName := ⟨RJxc12de, "subListRangeCheck", "(III)V"⟩
def RJx35411 : String := "java/util/ArrayList$Itr"
def TJx35411 : u_T := fun k => match k with
  | 0 => ("java/util/ArrayList$Itr", "cursor", "I", false)
  | 1 => ("java/util/ArrayList$Itr", "lastRet", "I", false)
  | 2 => ("java/util/ArrayList$Itr", "expectedModCount", "I", false)
  | _ => ("java/util/ArrayList$Itr", "this$0", "Ljava/util/ArrayList;", true)
def tyJx35411 : Nat → FieldType := fun k => match k with
  | 0 => .int
  | 1 => .int
  | 2 => .int
  | _ => .object "java/util/ArrayList"
abbrev wsJx354110 : List Cond := u_ws RJx35411 TJx35411 4
theorem nmJx35411 : ∀ a, a < 4 → ∀ b, b < 4 → a ≠ b → (TJx35411 a).2.1 ≠ (TJx35411 b).2.1 := by decide +kernel
theorem tyJx35411_ok : ∀ k, k < 4 → parseFieldDescriptor (TJx35411 k).2.2.1 = some (tyJx35411 k) := by decide +kernel
abbrev cJx35411_init_45d68 : ByteArray := prog_44_method_1_code
def yJx35411_init_45d68 : MethodName := ⟨RJx35411, "<init>", "(Ljava/util/ArrayList;)V"⟩
abbrev cJx35411_hasNext_aae02 : ByteArray := prog_44_method_2_code
def yJx35411_hasNext_aae02 : MethodName := ⟨RJx35411, "hasNext", "()Z"⟩
abbrev cJx35411_next_0502b : ByteArray := prog_44_method_3_code
def yJx35411_next_0502b : MethodName := ⟨RJx35411, "next", "()Ljava/lang/Object;"⟩
abbrev cJx35411_checkForComodification_da8c8 : ByteArray := prog_44_method_6_code
def yJx35411_checkForComodification_da8c8 : MethodName := ⟨RJx35411, "checkForComodification", "()V"⟩
def RJx8ef59 : String := "java/util/ArrayList$ListItr"
def TJx8ef59 : u_T := fun k => match k with
  | 0 => ("java/util/ArrayList$Itr", "cursor", "I", false)
  | 1 => ("java/util/ArrayList$Itr", "lastRet", "I", false)
  | 2 => ("java/util/ArrayList$Itr", "expectedModCount", "I", false)
  | 3 => ("java/util/ArrayList$Itr", "this$0", "Ljava/util/ArrayList;", true)
  | _ => ("java/util/ArrayList$ListItr", "this$0", "Ljava/util/ArrayList;", true)
def tyJx8ef59 : Nat → FieldType := fun k => match k with
  | 0 => .int
  | 1 => .int
  | 2 => .int
  | 3 => .object "java/util/ArrayList"
  | _ => .object "java/util/ArrayList"
abbrev wsJx8ef590 : List Cond := u_ws RJx8ef59 TJx8ef59 5
theorem nmJx8ef59 : ∀ a, a < 5 → ∀ b, b < 5 → a ≠ b → (TJx8ef59 a).2.1 ≠ (TJx8ef59 b).2.1 := by decide +kernel
theorem tyJx8ef59_ok : ∀ k, k < 5 → parseFieldDescriptor (TJx8ef59 k).2.2.1 = some (tyJx8ef59 k) := by decide +kernel
abbrev cJx8ef59_init_b38b6 : ByteArray := prog_45_method_1_code
def yJx8ef59_init_b38b6 : MethodName := ⟨RJx8ef59, "<init>", "(Ljava/util/ArrayList;I)V"⟩
def RJx36abd : String := "java/util/ArrayList$SubList$1"
def TJx36abd : u_T := fun k => match k with
  | 0 => ("java/util/ArrayList$SubList$1", "cursor", "I", false)
  | 1 => ("java/util/ArrayList$SubList$1", "lastRet", "I", false)
  | 2 => ("java/util/ArrayList$SubList$1", "expectedModCount", "I", false)
  | 3 => ("java/util/ArrayList$SubList$1", "val$index", "I", true)
  | _ => ("java/util/ArrayList$SubList$1", "this$0", "Ljava/util/ArrayList$SubList;", true)
def tyJx36abd : Nat → FieldType := fun k => match k with
  | 0 => .int
  | 1 => .int
  | 2 => .int
  | 3 => .int
  | _ => .object "java/util/ArrayList$SubList"
abbrev wsJx36abd0 : List Cond := u_ws RJx36abd TJx36abd 5
theorem nmJx36abd : ∀ a, a < 5 → ∀ b, b < 5 → a ≠ b → (TJx36abd a).2.1 ≠ (TJx36abd b).2.1 := by decide +kernel
theorem tyJx36abd_ok : ∀ k, k < 5 → parseFieldDescriptor (TJx36abd k).2.2.1 = some (tyJx36abd k) := by decide +kernel
abbrev cJx36abd_init_f1156 : ByteArray := prog_47_method_1_code
def yJx36abd_init_f1156 : MethodName := ⟨RJx36abd, "<init>", "(Ljava/util/ArrayList$SubList;I)V"⟩
abbrev cJx36abd_hasNext_aae02 : ByteArray := prog_47_method_2_code
def yJx36abd_hasNext_aae02 : MethodName := ⟨RJx36abd, "hasNext", "()Z"⟩
abbrev cJx36abd_next_0502b : ByteArray := prog_47_method_3_code
def yJx36abd_next_0502b : MethodName := ⟨RJx36abd, "next", "()Ljava/lang/Object;"⟩
abbrev cJx36abd_checkForComodification_da8c8 : ByteArray := prog_47_method_12_code
def yJx36abd_checkForComodification_da8c8 : MethodName := ⟨RJx36abd, "checkForComodification", "()V"⟩
def RJxc9f04 : String := "java/util/ArrayList$SubList"
def TJxc9f04 : u_T := fun k => match k with
  | 0 => ("java/util/AbstractList", "modCount", "I", false)
  | 1 => ("java/util/ArrayList$SubList", "root", "Ljava/util/ArrayList;", true)
  | 2 => ("java/util/ArrayList$SubList", "parent", "Ljava/util/ArrayList$SubList;", true)
  | 3 => ("java/util/ArrayList$SubList", "offset", "I", true)
  | _ => ("java/util/ArrayList$SubList", "size", "I", false)
def tyJxc9f04 : Nat → FieldType := fun k => match k with
  | 0 => .int
  | 1 => .object "java/util/ArrayList"
  | 2 => .object "java/util/ArrayList$SubList"
  | 3 => .int
  | _ => .int
abbrev wsJxc9f040 : List Cond := u_ws RJxc9f04 TJxc9f04 5
theorem nmJxc9f04 : ∀ a, a < 5 → ∀ b, b < 5 → a ≠ b → (TJxc9f04 a).2.1 ≠ (TJxc9f04 b).2.1 := by decide +kernel
theorem tyJxc9f04_ok : ∀ k, k < 5 → parseFieldDescriptor (TJxc9f04 k).2.2.1 = some (tyJxc9f04 k) := by decide +kernel
abbrev cJxc9f04_init_1a8f5 : ByteArray := prog_46_method_1_code
def yJxc9f04_init_1a8f5 : MethodName := ⟨RJxc9f04, "<init>", "(Ljava/util/ArrayList;II)V"⟩
abbrev cJxc9f04_get_915e3 : ByteArray := prog_46_method_4_code
def yJxc9f04_get_915e3 : MethodName := ⟨RJxc9f04, "get", "(I)Ljava/lang/Object;"⟩
abbrev cJxc9f04_size_8abf5 : ByteArray := prog_46_method_5_code
def yJxc9f04_size_8abf5 : MethodName := ⟨RJxc9f04, "size", "()I"⟩
abbrev cJxc9f04_iterator_32c93 : ByteArray := prog_46_method_23_code
def yJxc9f04_iterator_32c93 : MethodName := ⟨RJxc9f04, "iterator", "()Ljava/util/Iterator;"⟩
abbrev cJxc9f04_listIterator_a2236 : ByteArray := prog_46_method_24_code
def yJxc9f04_listIterator_a2236 : MethodName := ⟨RJxc9f04, "listIterator", "(I)Ljava/util/ListIterator;"⟩
abbrev cJxc9f04_rangeCheckForAdd_d00df : ByteArray := prog_46_method_26_code
def yJxc9f04_rangeCheckForAdd_d00df : MethodName := ⟨RJxc9f04, "rangeCheckForAdd", "(I)V"⟩
abbrev cJxc9f04_checkForComodification_da8c8 : ByteArray := prog_46_method_28_code
def yJxc9f04_checkForComodification_da8c8 : MethodName := ⟨RJxc9f04, "checkForComodification", "()V"⟩
def RJx4a65c : String := "java/util/ArrayList"
def TJx4a65c : u_T := fun k => match k with
  | 0 => ("java/util/AbstractList", "modCount", "I", false)
  | 1 => ("java/util/ArrayList", "elementData", "[Ljava/lang/Object;", false)
  | _ => ("java/util/ArrayList", "size", "I", false)
def tyJx4a65c : Nat → FieldType := fun k => match k with
  | 0 => .int
  | 1 => .array (.object "java/lang/Object")
  | _ => .int
abbrev wsJx4a65c0 : List Cond := u_ws RJx4a65c TJx4a65c 3
theorem nmJx4a65c : ∀ a, a < 3 → ∀ b, b < 3 → a ≠ b → (TJx4a65c a).2.1 ≠ (TJx4a65c b).2.1 := by decide +kernel
theorem tyJx4a65c_ok : ∀ k, k < 3 → parseFieldDescriptor (TJx4a65c k).2.2.1 = some (tyJx4a65c k) := by decide +kernel
abbrev cJx4a65c_init_da8c8 : ByteArray := prog_43_method_2_code
def yJx4a65c_init_da8c8 : MethodName := ⟨RJx4a65c, "<init>", "()V"⟩
abbrev cJx4a65c_grow_92f84 : ByteArray := prog_43_method_6_code
def yJx4a65c_grow_92f84 : MethodName := ⟨RJx4a65c, "grow", "(I)[Ljava/lang/Object;"⟩
abbrev cJx4a65c_grow_d5877 : ByteArray := prog_43_method_7_code
def yJx4a65c_grow_d5877 : MethodName := ⟨RJx4a65c, "grow", "()[Ljava/lang/Object;"⟩
abbrev cJx4a65c_size_8abf5 : ByteArray := prog_43_method_8_code
def yJx4a65c_size_8abf5 : MethodName := ⟨RJx4a65c, "size", "()I"⟩
abbrev cJx4a65c_isEmpty_aae02 : ByteArray := prog_43_method_9_code
def yJx4a65c_isEmpty_aae02 : MethodName := ⟨RJx4a65c, "isEmpty", "()Z"⟩
abbrev cJx4a65c_indexOf_e47da : ByteArray := prog_43_method_11_code
def yJx4a65c_indexOf_e47da : MethodName := ⟨RJx4a65c, "indexOf", "(Ljava/lang/Object;)I"⟩
abbrev cJx4a65c_indexOfRange_bf822 : ByteArray := prog_43_method_12_code
def yJx4a65c_indexOfRange_bf822 : MethodName := ⟨RJx4a65c, "indexOfRange", "(Ljava/lang/Object;II)I"⟩
abbrev cJx4a65c_elementData_915e3 : ByteArray := prog_43_method_18_code
def yJx4a65c_elementData_915e3 : MethodName := ⟨RJx4a65c, "elementData", "(I)Ljava/lang/Object;"⟩
abbrev cJx4a65c_get_915e3 : ByteArray := prog_43_method_20_code
def yJx4a65c_get_915e3 : MethodName := ⟨RJx4a65c, "get", "(I)Ljava/lang/Object;"⟩
abbrev cJx4a65c_add_72be8 : ByteArray := prog_43_method_24_code
def yJx4a65c_add_72be8 : MethodName := ⟨RJx4a65c, "add", "(Ljava/lang/Object;[Ljava/lang/Object;I)V"⟩
abbrev cJx4a65c_add_9ea2d : ByteArray := prog_43_method_25_code
def yJx4a65c_add_9ea2d : MethodName := ⟨RJx4a65c, "add", "(Ljava/lang/Object;)Z"⟩
abbrev cJx4a65c_remove_915e3 : ByteArray := prog_43_method_29_code
def yJx4a65c_remove_915e3 : MethodName := ⟨RJx4a65c, "remove", "(I)Ljava/lang/Object;"⟩
abbrev cJx4a65c_fastRemove_b59b0 : ByteArray := prog_43_method_39_code
def yJx4a65c_fastRemove_b59b0 : MethodName := ⟨RJx4a65c, "fastRemove", "([Ljava/lang/Object;I)V"⟩
abbrev cJx4a65c_rangeCheckForAdd_d00df : ByteArray := prog_43_method_45_code
def yJx4a65c_rangeCheckForAdd_d00df : MethodName := ⟨RJx4a65c, "rangeCheckForAdd", "(I)V"⟩
abbrev cJx4a65c_listIterator_a2236 : ByteArray := prog_43_method_53_code
def yJx4a65c_listIterator_a2236 : MethodName := ⟨RJx4a65c, "listIterator", "(I)Ljava/util/ListIterator;"⟩
abbrev cJx4a65c_iterator_32c93 : ByteArray := prog_43_method_55_code
def yJx4a65c_iterator_32c93 : MethodName := ⟨RJx4a65c, "iterator", "()Ljava/util/Iterator;"⟩
abbrev cJx4a65c_subList_8a2a7 : ByteArray := prog_43_method_56_code
def yJx4a65c_subList_8a2a7 : MethodName := ⟨RJx4a65c, "subList", "(II)Ljava/util/List;"⟩
def RJ7 : String := "java/util/Arrays"
def TJ7 : u_T := fun k => match k with
  | _ => ("", "", "", false)
def tyJ7 : Nat → FieldType := fun k => match k with
  | _ => .int
abbrev wsJ70 : List Cond := u_ws RJ7 TJ7 0
theorem nmJ7 : ∀ a, a < 0 → ∀ b, b < 0 → a ≠ b → (TJ7 a).2.1 ≠ (TJ7 b).2.1 := by decide +kernel
theorem tyJ7_ok : ∀ k, k < 0 → parseFieldDescriptor (TJ7 k).2.2.1 = some (tyJ7 k) := by decide +kernel
abbrev cJ7_copyOf_1904c : ByteArray := prog_48_method_119_code
def yJ7_copyOf_1904c : MethodName := ⟨RJ7, "copyOf", "([Ljava/lang/Object;I)[Ljava/lang/Object;"⟩
abbrev cJ7_copyOf_6403c : ByteArray := prog_48_method_120_code
def yJ7_copyOf_6403c : MethodName := ⟨RJ7, "copyOf", "([Ljava/lang/Object;ILjava/lang/Class;)[Ljava/lang/Object;"⟩
abbrev cJ7_copyOf_9075b : ByteArray := prog_48_method_121_code
def yJ7_copyOf_9075b : MethodName := ⟨RJ7, "copyOf", "([BI)[B"⟩
abbrev cJ7_checkLength_df160 : ByteArray := prog_48_method_131_code
def yJ7_checkLength_df160 : MethodName := ⟨RJ7, "checkLength", "(II)V"⟩
abbrev cJ7_copyOfRange_39247 : ByteArray := prog_48_method_132_code
def yJ7_copyOfRange_39247 : MethodName := ⟨RJ7, "copyOfRange", "([BII)[B"⟩
abbrev cJ7_copyOfRangeByte_39247 : ByteArray := prog_48_method_133_code
def yJ7_copyOfRangeByte_39247 : MethodName := ⟨RJ7, "copyOfRangeByte", "([BII)[B"⟩
def RJx5ef63 : String := "java/util/Collection"
def TJx5ef63 : u_T := fun k => match k with
  | _ => ("", "", "", false)
def tyJx5ef63 : Nat → FieldType := fun k => match k with
  | _ => .int
abbrev wsJx5ef630 : List Cond := u_ws RJx5ef63 TJx5ef63 0
theorem nmJx5ef63 : ∀ a, a < 0 → ∀ b, b < 0 → a ≠ b → (TJx5ef63 a).2.1 ≠ (TJx5ef63 b).2.1 := by decide +kernel
theorem tyJx5ef63_ok : ∀ k, k < 0 → parseFieldDescriptor (TJx5ef63 k).2.2.1 = some (tyJx5ef63 k) := by decide +kernel
def RJxd5e46 : String := "java/util/Collections"
def TJxd5e46 : u_T := fun k => match k with
  | _ => ("", "", "", false)
def tyJxd5e46 : Nat → FieldType := fun k => match k with
  | _ => .int
abbrev wsJxd5e460 : List Cond := u_ws RJxd5e46 TJxd5e46 0
theorem nmJxd5e46 : ∀ a, a < 0 → ∀ b, b < 0 → a ≠ b → (TJxd5e46 a).2.1 ≠ (TJxd5e46 b).2.1 := by decide +kernel
theorem tyJxd5e46_ok : ∀ k, k < 0 → parseFieldDescriptor (TJxd5e46 k).2.2.1 = some (tyJxd5e46 k) := by decide +kernel
abbrev cJxd5e46_min_09b60 : ByteArray := prog_50_method_19_code
def yJxd5e46_min_09b60 : MethodName := ⟨RJxd5e46, "min", "(Ljava/util/Collection;)Ljava/lang/Object;"⟩
abbrev cJxd5e46_max_09b60 : ByteArray := prog_50_method_21_code
def yJxd5e46_max_09b60 : MethodName := ⟨RJxd5e46, "max", "(Ljava/util/Collection;)Ljava/lang/Object;"⟩
def RJx4d0d8 : String := "java/util/Iterator"
def TJx4d0d8 : u_T := fun k => match k with
  | _ => ("", "", "", false)
def tyJx4d0d8 : Nat → FieldType := fun k => match k with
  | _ => .int
abbrev wsJx4d0d80 : List Cond := u_ws RJx4d0d8 TJx4d0d8 0
theorem nmJx4d0d8 : ∀ a, a < 0 → ∀ b, b < 0 → a ≠ b → (TJx4d0d8 a).2.1 ≠ (TJx4d0d8 b).2.1 := by decide +kernel
theorem tyJx4d0d8_ok : ∀ k, k < 0 → parseFieldDescriptor (TJx4d0d8 k).2.2.1 = some (tyJx4d0d8 k) := by decide +kernel
def RJxbd725 : String := "java/util/List"
def TJxbd725 : u_T := fun k => match k with
  | _ => ("", "", "", false)
def tyJxbd725 : Nat → FieldType := fun k => match k with
  | _ => .int
abbrev wsJxbd7250 : List Cond := u_ws RJxbd725 TJxbd725 0
theorem nmJxbd725 : ∀ a, a < 0 → ∀ b, b < 0 → a ≠ b → (TJxbd725 a).2.1 ≠ (TJxbd725 b).2.1 := by decide +kernel
theorem tyJxbd725_ok : ∀ k, k < 0 → parseFieldDescriptor (TJxbd725 k).2.2.1 = some (tyJxbd725 k) := by decide +kernel
def RJxdb728 : String := "java/util/ListIterator"
def TJxdb728 : u_T := fun k => match k with
  | _ => ("", "", "", false)
def tyJxdb728 : Nat → FieldType := fun k => match k with
  | _ => .int
abbrev wsJxdb7280 : List Cond := u_ws RJxdb728 TJxdb728 0
theorem nmJxdb728 : ∀ a, a < 0 → ∀ b, b < 0 → a ≠ b → (TJxdb728 a).2.1 ≠ (TJxdb728 b).2.1 := by decide +kernel
theorem tyJxdb728_ok : ∀ k, k < 0 → parseFieldDescriptor (TJxdb728 k).2.2.1 = some (tyJxdb728 k) := by decide +kernel
def RJ15 : String := "java/util/Objects"
def TJ15 : u_T := fun k => match k with
  | _ => ("", "", "", false)
def tyJ15 : Nat → FieldType := fun k => match k with
  | _ => .int
abbrev wsJ150 : List Cond := u_ws RJ15 TJ15 0
theorem nmJ15 : ∀ a, a < 0 → ∀ b, b < 0 → a ≠ b → (TJ15 a).2.1 ≠ (TJ15 b).2.1 := by decide +kernel
theorem tyJ15_ok : ∀ k, k < 0 → parseFieldDescriptor (TJ15 k).2.2.1 = some (tyJ15 k) := by decide +kernel
abbrev cJ15_checkIndex_7cf53 : ByteArray := prog_55_method_17_code
def yJ15_checkIndex_7cf53 : MethodName := ⟨RJ15, "checkIndex", "(II)I"⟩
def RJxf0a74 : String := "java/util/RandomAccess"
def TJxf0a74 : u_T := fun k => match k with
  | _ => ("", "", "", false)
def tyJxf0a74 : Nat → FieldType := fun k => match k with
  | _ => .int
abbrev wsJxf0a740 : List Cond := u_ws RJxf0a74 TJxf0a74 0
theorem nmJxf0a74 : ∀ a, a < 0 → ∀ b, b < 0 → a ≠ b → (TJxf0a74 a).2.1 ≠ (TJxf0a74 b).2.1 := by decide +kernel
theorem tyJxf0a74_ok : ∀ k, k < 0 → parseFieldDescriptor (TJxf0a74 k).2.2.1 = some (tyJxf0a74 k) := by decide +kernel
def RJxa66e6 : String := "java/util/SequencedCollection"
def TJxa66e6 : u_T := fun k => match k with
  | _ => ("", "", "", false)
def tyJxa66e6 : Nat → FieldType := fun k => match k with
  | _ => .int
abbrev wsJxa66e60 : List Cond := u_ws RJxa66e6 TJxa66e6 0
theorem nmJxa66e6 : ∀ a, a < 0 → ∀ b, b < 0 → a ≠ b → (TJxa66e6 a).2.1 ≠ (TJxa66e6 b).2.1 := by decide +kernel
theorem tyJxa66e6_ok : ∀ k, k < 0 → parseFieldDescriptor (TJxa66e6 k).2.2.1 = some (tyJxa66e6 k) := by decide +kernel
def RJx9a822 : String := "jdk/internal/misc/Unsafe"
def TJx9a822 : u_T := fun k => match k with
  | _ => ("", "", "", false)
def tyJx9a822 : Nat → FieldType := fun k => match k with
  | _ => .int
abbrev wsJx9a8220 : List Cond := u_ws RJx9a822 TJx9a822 0
theorem nmJx9a822 : ∀ a, a < 0 → ∀ b, b < 0 → a ≠ b → (TJx9a822 a).2.1 ≠ (TJx9a822 b).2.1 := by decide +kernel
theorem tyJx9a822_ok : ∀ k, k < 0 → parseFieldDescriptor (TJx9a822 k).2.2.1 = some (tyJx9a822 k) := by decide +kernel
abbrev cJx9a822_getLongUnaligned_f02c6 : ByteArray := prog_58_method_334_code
def yJx9a822_getLongUnaligned_f02c6 : MethodName := ⟨RJx9a822, "getLongUnaligned", "(Ljava/lang/Object;J)J"⟩
abbrev cJx9a822_getIntUnaligned_25a47 : ByteArray := prog_58_method_336_code
def yJx9a822_getIntUnaligned_25a47 : MethodName := ⟨RJx9a822, "getIntUnaligned", "(Ljava/lang/Object;J)I"⟩
abbrev cJx9a822_pickPos_7cf53 : ByteArray := prog_58_method_350_code
def yJx9a822_pickPos_7cf53 : MethodName := ⟨RJx9a822, "pickPos", "(II)I"⟩
abbrev cJx9a822_makeLong_0477f : ByteArray := prog_58_method_351_code
def yJx9a822_makeLong_0477f : MethodName := ⟨RJx9a822, "makeLong", "(BBBBBBBB)J"⟩
abbrev cJx9a822_makeLong_4b46d : ByteArray := prog_58_method_352_code
def yJx9a822_makeLong_4b46d : MethodName := ⟨RJx9a822, "makeLong", "(SSSS)J"⟩
abbrev cJx9a822_makeLong_a216e : ByteArray := prog_58_method_353_code
def yJx9a822_makeLong_a216e : MethodName := ⟨RJx9a822, "makeLong", "(II)J"⟩
abbrev cJx9a822_makeInt_4e28c : ByteArray := prog_58_method_354_code
def yJx9a822_makeInt_4e28c : MethodName := ⟨RJx9a822, "makeInt", "(SS)I"⟩
abbrev cJx9a822_makeInt_86272 : ByteArray := prog_58_method_355_code
def yJx9a822_makeInt_86272 : MethodName := ⟨RJx9a822, "makeInt", "(BBBB)I"⟩
abbrev cJx9a822_toUnsignedInt_4d018 : ByteArray := prog_58_method_366_code
def yJx9a822_toUnsignedInt_4d018 : MethodName := ⟨RJx9a822, "toUnsignedInt", "(B)I"⟩
abbrev cJx9a822_toUnsignedInt_f1ed4 : ByteArray := prog_58_method_367_code
def yJx9a822_toUnsignedInt_f1ed4 : MethodName := ⟨RJx9a822, "toUnsignedInt", "(S)I"⟩
abbrev cJx9a822_toUnsignedLong_c5be9 : ByteArray := prog_58_method_368_code
def yJx9a822_toUnsignedLong_c5be9 : MethodName := ⟨RJx9a822, "toUnsignedLong", "(B)J"⟩
abbrev cJx9a822_toUnsignedLong_51cfc : ByteArray := prog_58_method_369_code
def yJx9a822_toUnsignedLong_51cfc : MethodName := ⟨RJx9a822, "toUnsignedLong", "(S)J"⟩
abbrev cJx9a822_toUnsignedLong_3e8ac : ByteArray := prog_58_method_370_code
def yJx9a822_toUnsignedLong_3e8ac : MethodName := ⟨RJx9a822, "toUnsignedLong", "(I)J"⟩
def RJxf92f9 : String := "jdk/internal/misc/UnsafeConstants"
def TJxf92f9 : u_T := fun k => match k with
  | _ => ("", "", "", false)
def tyJxf92f9 : Nat → FieldType := fun k => match k with
  | _ => .int
abbrev wsJxf92f90 : List Cond := u_ws RJxf92f9 TJxf92f9 0
theorem nmJxf92f9 : ∀ a, a < 0 → ∀ b, b < 0 → a ≠ b → (TJxf92f9 a).2.1 ≠ (TJxf92f9 b).2.1 := by decide +kernel
theorem tyJxf92f9_ok : ∀ k, k < 0 → parseFieldDescriptor (TJxf92f9 k).2.2.1 = some (tyJxf92f9 k) := by decide +kernel
def RJ8 : String := "jdk/internal/util/ArraysSupport"
def TJ8 : u_T := fun k => match k with
  | _ => ("", "", "", false)
def tyJ8 : Nat → FieldType := fun k => match k with
  | _ => .int
abbrev wsJ80 : List Cond := u_ws RJ8 TJ8 0
theorem nmJ8 : ∀ a, a < 0 → ∀ b, b < 0 → a ≠ b → (TJ8 a).2.1 ≠ (TJ8 b).2.1 := by decide +kernel
theorem tyJ8_ok : ∀ k, k < 0 → parseFieldDescriptor (TJ8 k).2.2.1 = some (tyJ8 k) := by decide +kernel
abbrev cJ8_vectorizedMismatch_456ae : ByteArray := prog_60_method_3_code
def yJ8_vectorizedMismatch_456ae : MethodName := ⟨RJ8, "vectorizedMismatch", "(Ljava/lang/Object;JLjava/lang/Object;JII)I"⟩
abbrev cJ8_mismatch_cb723 : ByteArray := prog_60_method_13_code
def yJ8_mismatch_cb723 : MethodName := ⟨RJ8, "mismatch", "([B[BI)I"⟩
abbrev cJ8_newLength_cabcc : ByteArray := prog_60_method_27_code
def yJ8_newLength_cabcc : MethodName := ⟨RJ8, "newLength", "(III)I"⟩
abbrev cJ8_hugeLength_7cf53 : ByteArray := prog_60_method_28_code
def yJ8_hugeLength_7cf53 : MethodName := ⟨RJ8, "hugeLength", "(II)I"⟩
def RJ3 : String := "jdk/internal/util/Preconditions"
def TJ3 : u_T := fun k => match k with
  | _ => ("", "", "", false)
def tyJ3 : Nat → FieldType := fun k => match k with
  | _ => .int
abbrev wsJ30 : List Cond := u_ws RJ3 TJ3 0
theorem nmJ3 : ∀ a, a < 0 → ∀ b, b < 0 → a ≠ b → (TJ3 a).2.1 ≠ (TJ3 b).2.1 := by decide +kernel
theorem tyJ3_ok : ∀ k, k < 0 → parseFieldDescriptor (TJ3 k).2.2.1 = some (tyJ3 k) := by decide +kernel
abbrev cJ3_checkIndex_8e157 : ByteArray := prog_61_method_11_code
def yJ3_checkIndex_8e157 : MethodName := ⟨RJ3, "checkIndex", "(IILjava/util/function/BiFunction;)I"⟩
abbrev cJ3_checkFromToIndex_8c36e : ByteArray := prog_61_method_12_code
def yJ3_checkFromToIndex_8c36e : MethodName := ⟨RJ3, "checkFromToIndex", "(IIILjava/util/function/BiFunction;)I"⟩
abbrev cJ3_checkFromIndexSize_8c36e : ByteArray := prog_61_method_13_code
def yJ3_checkFromIndexSize_8c36e : MethodName := ⟨RJ3, "checkFromIndexSize", "(IIILjava/util/function/BiFunction;)I"⟩
def RL : String := "CheckWeigherLaw"
abbrev cL_draw : ByteArray := method_2_code
def yL_draw : MethodName := ⟨RL, "draw", "([I)I"⟩
abbrev cL_puts : ByteArray := method_3_code
def yL_puts : MethodName := ⟨RL, "puts", "(LCheckWeigher;Ljava/lang/String;)I"⟩
abbrev cL_laid : ByteArray := method_4_code
def yL_laid : MethodName := ⟨RL, "laid", "(LCheckWeigher;[I)LCheckWeigherLaw$Home;"⟩
abbrev cL_acts : ByteArray := method_5_code
def yL_acts : MethodName := ⟨RL, "acts", "(LCheckWeigher;LCheckWeigherLaw$Home;[I)Z"⟩
abbrev cL_alike : ByteArray := method_6_code
def yL_alike : MethodName := ⟨RL, "alike", "(LCheckWeigher;LCheckWeigherLaw$Home;)Z"⟩
abbrev cL_law : ByteArray := code
def yL_law : MethodName := ⟨RL, "law", "([I)Z"⟩
abbrev cL_areCounted : ByteArray := method_8_code
def yL_areCounted : MethodName := ⟨RL, "areCounted", "(LCheckWeigher;LCheckWeigherLaw$Home;)Z"⟩
abbrev cL_areSamples : ByteArray := method_9_code
def yL_areSamples : MethodName := ⟨RL, "areSamples", "(LCheckWeigher;LCheckWeigherLaw$Home;)Z"⟩
abbrev vwCl : List vw_C := [(RX0, TX0, 17), (RX1, TX1, 18), (RX2, TX2, 9), (RX3, TX3, 4), (RX4, TX4, 19), (RX5, TX5, 4), (RX6, TX6, 10), (RX7, TX7, 14)]
