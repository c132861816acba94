/-! ===== BEGIN words of one list among another's, by their places ===== -/
/-! ===== END ===== -/

/-! ===== BEGIN printed: names, fields, word lists, decode rows ===== -/
def RX0 : String := "IcePilots$Convoy"
def TX0 : u_T := fun k => match k with
  | 0 => ("IcePilots$Convoy", "from", "[I", true)
  | 1 => ("IcePilots$Convoy", "takes", "[I", true)
  | 2 => ("IcePilots$Convoy", "worth", "[I", true)
  | 3 => ("IcePilots$Convoy", "settled", "[I", true)
  | 4 => ("IcePilots$Convoy", "tried", "[I", true)
  | 5 => ("IcePilots$Convoy", "size", "I", false)
  | _ => ("IcePilots$Convoy", "settledSize", "I", false)
def tyX0 : Nat → FieldType := fun k => match k with
  | 0 => .array .int
  | 1 => .array .int
  | 2 => .array .int
  | 3 => .array .int
  | 4 => .array .int
  | 5 => .int
  | _ => .int
abbrev wsX00 : List Cond := u_ws RX0 TX0 7
theorem nmX0 : ∀ a, a < 7 → ∀ b, b < 7 → a ≠ b → (TX0 a).2.1 ≠ (TX0 b).2.1 := by decide +kernel
theorem tyX0_ok : ∀ k, k < 7 → parseFieldDescriptor (TX0 k).2.2.1 = some (tyX0 k) := by decide +kernel
abbrev cX0_init : ByteArray := prog_2_method_1_code
def yX0_init : MethodName := ⟨RX0, "<init>", "()V"⟩
abbrev cX0_copy : ByteArray := prog_2_method_2_code
def yX0_copy : MethodName := ⟨RX0, "copy", "(LIcePilots$Convoy;)V"⟩
abbrev cX0_join : ByteArray := prog_2_method_3_code
def yX0_join : MethodName := ⟨RX0, "join", "(III)I"⟩
abbrev cX0_settle : ByteArray := prog_2_method_4_code
def yX0_settle : MethodName := ⟨RX0, "settle", "(I)I"⟩
abbrev cX0_waiting : ByteArray := prog_2_method_5_code
def yX0_waiting : MethodName := ⟨RX0, "waiting", "(I)I"⟩
abbrev cX0_tryDigits : ByteArray := prog_2_method_6_code
def yX0_tryDigits : MethodName := ⟨RX0, "tryDigits", "(I)Z"⟩
abbrev cX0_keepTried : ByteArray := prog_2_method_7_code
def yX0_keepTried : MethodName := ⟨RX0, "keepTried", "()V"⟩
abbrev cX0_tryNext : ByteArray := prog_2_method_8_code
def yX0_tryNext : MethodName := ⟨RX0, "tryNext", "()Z"⟩
abbrev cX0_swap : ByteArray := prog_2_method_9_code
def yX0_swap : MethodName := ⟨RX0, "swap", "(II)V"⟩
def RX1 : String := "IcePilots$Fleet"
def TX1 : u_T := fun k => match k with
  | 0 => ("IcePilots$Fleet", "strength", "[I", true)
  | 1 => ("IcePilots$Fleet", "fuel", "[I", true)
  | 2 => ("IcePilots$Fleet", "place", "[I", true)
  | 3 => ("IcePilots$Fleet", "told", "[I", true)
  | 4 => ("IcePilots$Fleet", "moved", "[I", true)
  | 5 => ("IcePilots$Fleet", "line", "[I", true)
  | 6 => ("IcePilots$Fleet", "done", "[Z", true)
  | 7 => ("IcePilots$Fleet", "orders", "[LIcePilots$Orders;", true)
  | _ => ("IcePilots$Fleet", "size", "I", false)
def tyX1 : Nat → FieldType := fun k => match k with
  | 0 => .array .int
  | 1 => .array .int
  | 2 => .array .int
  | 3 => .array .int
  | 4 => .array .int
  | 5 => .array .int
  | 6 => .array .boolean
  | 7 => .array (.object "IcePilots$Orders")
  | _ => .int
abbrev wsX10 : List Cond := u_ws RX1 TX1 9
theorem nmX1 : ∀ a, a < 9 → ∀ b, b < 9 → a ≠ b → (TX1 a).2.1 ≠ (TX1 b).2.1 := by decide +kernel
theorem tyX1_ok : ∀ k, k < 9 → parseFieldDescriptor (TX1 k).2.2.1 = some (tyX1 k) := by decide +kernel
abbrev cX1_init : ByteArray := prog_3_method_1_code
def yX1_init : MethodName := ⟨RX1, "<init>", "()V"⟩
abbrev cX1_copy : ByteArray := prog_3_method_2_code
def yX1_copy : MethodName := ⟨RX1, "copy", "(LIcePilots$Fleet;)V"⟩
abbrev cX1_join : ByteArray := prog_3_method_3_code
def yX1_join : MethodName := ⟨RX1, "join", "(III)I"⟩
abbrev cX1_has : ByteArray := prog_3_method_4_code
def yX1_has : MethodName := ⟨RX1, "has", "(I)Z"⟩
abbrev cX1_isBreaker : ByteArray := prog_3_method_5_code
def yX1_isBreaker : MethodName := ⟨RX1, "isBreaker", "(I)Z"⟩
abbrev cX1_linesOf : ByteArray := prog_3_method_6_code
def yX1_linesOf : MethodName := ⟨RX1, "linesOf", "(I)I"⟩
abbrev cX1_shipIn : ByteArray := prog_3_method_7_code
def yX1_shipIn : MethodName := ⟨RX1, "shipIn", "(I)I"⟩
abbrev cX1_breakerBeside : ByteArray := prog_3_method_8_code
def yX1_breakerBeside : MethodName := ⟨RX1, "breakerBeside", "(I)Z"⟩
abbrev cX1_shipsBeside : ByteArray := prog_3_method_9_code
def yX1_shipsBeside : MethodName := ⟨RX1, "shipsBeside", "(I)I"⟩
abbrev cX1_tellOthers : ByteArray := prog_3_method_10_code
def yX1_tellOthers : MethodName := ⟨RX1, "tellOthers", "(II)V"⟩
abbrev cX1_beside : ByteArray := prog_3_method_11_code
def yX1_beside : MethodName := ⟨RX1, "beside", "(II)Z"⟩
def RX2 : String := "IcePilots$Gulf"
def TX2 : u_T := fun k => match k with
  | 0 => ("IcePilots$Gulf", "weather", "LIcePilots$Weather;", true)
  | 1 => ("IcePilots$Gulf", "ice", "LIcePilots$Ice;", true)
  | 2 => ("IcePilots$Gulf", "fleet", "LIcePilots$Fleet;", true)
  | _ => ("IcePilots$Gulf", "hour", "I", false)
def tyX2 : Nat → FieldType := fun k => match k with
  | 0 => .object "IcePilots$Weather"
  | 1 => .object "IcePilots$Ice"
  | 2 => .object "IcePilots$Fleet"
  | _ => .int
abbrev wsX20 : List Cond := u_ws RX2 TX2 4
theorem nmX2 : ∀ a, a < 4 → ∀ b, b < 4 → a ≠ b → (TX2 a).2.1 ≠ (TX2 b).2.1 := by decide +kernel
theorem tyX2_ok : ∀ k, k < 4 → parseFieldDescriptor (TX2 k).2.2.1 = some (tyX2 k) := by decide +kernel
abbrev cX2_init : ByteArray := prog_4_method_1_code
def yX2_init : MethodName := ⟨RX2, "<init>", "(LIcePilots$Weather;)V"⟩
abbrev cX2_begin : ByteArray := prog_4_method_2_code
def yX2_begin : MethodName := ⟨RX2, "begin", "(II)V"⟩
abbrev cX2_copyAllButWeather : ByteArray := prog_4_method_3_code
def yX2_copyAllButWeather : MethodName := ⟨RX2, "copyAllButWeather", "(LIcePilots$Gulf;)V"⟩
abbrev cX2_passHour : ByteArray := prog_4_method_4_code
def yX2_passHour : MethodName := ⟨RX2, "passHour", "()V"⟩
abbrev cX2_held : ByteArray := prog_4_method_5_code
def yX2_held : MethodName := ⟨RX2, "held", "(I)Z"⟩
abbrev cX2_command : ByteArray := prog_4_method_6_code
def yX2_command : MethodName := ⟨RX2, "command", "(I)V"⟩
abbrev cX2_holds : ByteArray := prog_4_method_7_code
def yX2_holds : MethodName := ⟨RX2, "holds", "(ILIcePilots$Orders;I)Z"⟩
abbrev cX2_sight : ByteArray := prog_4_method_8_code
def yX2_sight : MethodName := ⟨RX2, "sight", "(II)I"⟩
abbrev cX2_burdenSeen : ByteArray := prog_4_method_9_code
def yX2_burdenSeen : MethodName := ⟨RX2, "burdenSeen", "(II)I"⟩
abbrev cX2_carryOut : ByteArray := prog_4_method_10_code
def yX2_carryOut : MethodName := ⟨RX2, "carryOut", "(III)Z"⟩
abbrev cX2_cut : ByteArray := prog_4_method_11_code
def yX2_cut : MethodName := ⟨RX2, "cut", "(I)Z"⟩
abbrev cX2_move : ByteArray := prog_4_method_12_code
def yX2_move : MethodName := ⟨RX2, "move", "(II)Z"⟩
def RX3 : String := "IcePilots$Ice"
def TX3 : u_T := fun k => match k with
  | 0 => ("IcePilots$Ice", "sea", "[Z", true)
  | 1 => ("IcePilots$Ice", "fast", "[Z", true)
  | 2 => ("IcePilots$Ice", "level", "[I", true)
  | 3 => ("IcePilots$Ice", "ridged", "[I", true)
  | 4 => ("IcePilots$Ice", "channel", "[I", true)
  | 5 => ("IcePilots$Ice", "arrived", "[I", true)
  | 6 => ("IcePilots$Ice", "rows", "I", false)
  | 7 => ("IcePilots$Ice", "columns", "I", false)
  | 8 => ("IcePilots$Ice", "laid", "I", false)
  | 9 => ("IcePilots$Ice", "grown", "I", false)
  | _ => ("IcePilots$Ice", "melted", "I", false)
def tyX3 : Nat → FieldType := fun k => match k with
  | 0 => .array .boolean
  | 1 => .array .boolean
  | 2 => .array .int
  | 3 => .array .int
  | 4 => .array .int
  | 5 => .array .int
  | 6 => .int
  | 7 => .int
  | 8 => .int
  | 9 => .int
  | _ => .int
abbrev wsX30 : List Cond := u_ws RX3 TX3 11
theorem nmX3 : ∀ a, a < 11 → ∀ b, b < 11 → a ≠ b → (TX3 a).2.1 ≠ (TX3 b).2.1 := by decide +kernel
theorem tyX3_ok : ∀ k, k < 11 → parseFieldDescriptor (TX3 k).2.2.1 = some (tyX3 k) := by decide +kernel
abbrev cX3_init : ByteArray := prog_5_method_1_code
def yX3_init : MethodName := ⟨RX3, "<init>", "()V"⟩
abbrev cX3_begin : ByteArray := prog_5_method_2_code
def yX3_begin : MethodName := ⟨RX3, "begin", "(II)V"⟩
abbrev cX3_copy : ByteArray := prog_5_method_3_code
def yX3_copy : MethodName := ⟨RX3, "copy", "(LIcePilots$Ice;)V"⟩
abbrev cX3_empty : ByteArray := prog_5_method_4_code
def yX3_empty : MethodName := ⟨RX3, "empty", "(IZ)V"⟩
abbrev cX3_lay : ByteArray := prog_5_method_5_code
def yX3_lay : MethodName := ⟨RX3, "lay", "(III)V"⟩
abbrev cX3_find : ByteArray := prog_5_method_6_code
def yX3_find : MethodName := ⟨RX3, "find", "(II)I"⟩
abbrev cX3_next : ByteArray := prog_5_method_7_code
def yX3_next : MethodName := ⟨RX3, "next", "(II)I"⟩
abbrev cX3_burden : ByteArray := prog_5_method_8_code
def yX3_burden : MethodName := ⟨RX3, "burden", "(I)I"⟩
abbrev cX3_allLevel : ByteArray := prog_5_method_9_code
def yX3_allLevel : MethodName := ⟨RX3, "allLevel", "()I"⟩
abbrev cX3_allRidged : ByteArray := prog_5_method_10_code
def yX3_allRidged : MethodName := ⟨RX3, "allRidged", "()I"⟩
abbrev cX3_sumOf : ByteArray := prog_5_method_11_code
def yX3_sumOf : MethodName := ⟨RX3, "sumOf", "([I)I"⟩
abbrev cX3_grow : ByteArray := prog_5_method_12_code
def yX3_grow : MethodName := ⟨RX3, "grow", "(I)V"⟩
abbrev cX3_melt : ByteArray := prog_5_method_13_code
def yX3_melt : MethodName := ⟨RX3, "melt", "(I)V"⟩
abbrev cX3_drift : ByteArray := prog_5_method_14_code
def yX3_drift : MethodName := ⟨RX3, "drift", "(II)V"⟩
abbrev cX3_send : ByteArray := prog_5_method_15_code
def yX3_send : MethodName := ⟨RX3, "send", "(III)V"⟩
abbrev cX3_closeChannels : ByteArray := prog_5_method_16_code
def yX3_closeChannels : MethodName := ⟨RX3, "closeChannels", "(I)V"⟩
def RX4 : String := "IcePilots$Orders"
def TX4 : u_T := fun k => match k with
  | 0 => ("IcePilots$Orders", "steps", "[I", true)
  | 1 => ("IcePilots$Orders", "ends", "[I", true)
  | 2 => ("IcePilots$Orders", "acts", "[I", true)
  | _ => ("IcePilots$Orders", "numbers", "[I", true)
def tyX4 : Nat → FieldType := fun k => match k with
  | 0 => .array .int
  | 1 => .array .int
  | 2 => .array .int
  | _ => .array .int
abbrev wsX40 : List Cond := u_ws RX4 TX4 4
theorem nmX4 : ∀ a, a < 4 → ∀ b, b < 4 → a ≠ b → (TX4 a).2.1 ≠ (TX4 b).2.1 := by decide +kernel
theorem tyX4_ok : ∀ k, k < 4 → parseFieldDescriptor (TX4 k).2.2.1 = some (tyX4 k) := by decide +kernel
abbrev cX4_init : ByteArray := prog_6_method_1_code
def yX4_init : MethodName := ⟨RX4, "<init>", "([I[I[I[I)V"⟩
abbrev cX4_comparison : ByteArray := prog_6_method_2_code
def yX4_comparison : MethodName := ⟨RX4, "comparison", "(III)I"⟩
abbrev cX4_whatOf : ByteArray := prog_6_method_3_code
def yX4_whatOf : MethodName := ⟨RX4, "whatOf", "(I)I"⟩
abbrev cX4_agrees : ByteArray := prog_6_method_4_code
def yX4_agrees : MethodName := ⟨RX4, "agrees", "(II)Z"⟩
def RX5 : String := "IcePilots$Reader"
def TX5 : u_T := fun k => match k with
  | 0 => ("IcePilots$Reader", "tokens", "[I", true)
  | 1 => ("IcePilots$Reader", "places", "[I", true)
  | 2 => ("IcePilots$Reader", "values", "[I", true)
  | 3 => ("IcePilots$Reader", "size", "I", false)
  | 4 => ("IcePilots$Reader", "at", "I", false)
  | 5 => ("IcePilots$Reader", "steps", "[I", true)
  | 6 => ("IcePilots$Reader", "ends", "[I", true)
  | 7 => ("IcePilots$Reader", "acts", "[I", true)
  | 8 => ("IcePilots$Reader", "numbers", "[I", true)
  | 9 => ("IcePilots$Reader", "stepped", "I", false)
  | 10 => ("IcePilots$Reader", "lines", "I", false)
  | 11 => ("IcePilots$Reader", "fault", "I", false)
  | _ => ("IcePilots$Reader", "place", "I", false)
def tyX5 : Nat → FieldType := fun k => match k with
  | 0 => .array .int
  | 1 => .array .int
  | 2 => .array .int
  | 3 => .int
  | 4 => .int
  | 5 => .array .int
  | 6 => .array .int
  | 7 => .array .int
  | 8 => .array .int
  | 9 => .int
  | 10 => .int
  | 11 => .int
  | _ => .int
abbrev wsX50 : List Cond := u_ws RX5 TX5 13
theorem nmX5 : ∀ a, a < 13 → ∀ b, b < 13 → a ≠ b → (TX5 a).2.1 ≠ (TX5 b).2.1 := by decide +kernel
theorem tyX5_ok : ∀ k, k < 13 → parseFieldDescriptor (TX5 k).2.2.1 = some (tyX5 k) := by decide +kernel
abbrev cX5_init : ByteArray := prog_7_method_1_code
def yX5_init : MethodName := ⟨RX5, "<init>", "()V"⟩
abbrev cX5_read : ByteArray := prog_7_method_2_code
def yX5_read : MethodName := ⟨RX5, "read", "(LIcePilots$Tape;)V"⟩
abbrev cX5_result : ByteArray := prog_7_method_3_code
def yX5_result : MethodName := ⟨RX5, "result", "()LIcePilots$Orders;"⟩
abbrev cX5_scan : ByteArray := prog_7_method_4_code
def yX5_scan : MethodName := ⟨RX5, "scan", "(LIcePilots$Tape;)V"⟩
abbrev cX5_scanWord : ByteArray := prog_7_method_5_code
def yX5_scanWord : MethodName := ⟨RX5, "scanWord", "(LIcePilots$Tape;I)I"⟩
abbrev cX5_scanNumber : ByteArray := prog_7_method_6_code
def yX5_scanNumber : MethodName := ⟨RX5, "scanNumber", "(LIcePilots$Tape;I)I"⟩
abbrev cX5_addToken : ByteArray := prog_7_method_7_code
def yX5_addToken : MethodName := ⟨RX5, "addToken", "(III)V"⟩
abbrev cX5_isLetter : ByteArray := prog_7_method_8_code
def yX5_isLetter : MethodName := ⟨RX5, "isLetter", "(I)Z"⟩
abbrev cX5_isDigit : ByteArray := prog_7_method_9_code
def yX5_isDigit : MethodName := ⟨RX5, "isDigit", "(I)Z"⟩
abbrev cX5_isSign : ByteArray := prog_7_method_10_code
def yX5_isSign : MethodName := ⟨RX5, "isSign", "(I)Z"⟩
abbrev cX5_isComparison : ByteArray := prog_7_method_11_code
def yX5_isComparison : MethodName := ⟨RX5, "isComparison", "(I)Z"⟩
abbrev cX5_token : ByteArray := prog_7_method_12_code
def yX5_token : MethodName := ⟨RX5, "token", "()I"⟩
abbrev cX5_placeHere : ByteArray := prog_7_method_13_code
def yX5_placeHere : MethodName := ⟨RX5, "placeHere", "()I"⟩
abbrev cX5_take : ByteArray := prog_7_method_14_code
def yX5_take : MethodName := ⟨RX5, "take", "(I)Z"⟩
abbrev cX5_takeNumber : ByteArray := prog_7_method_15_code
def yX5_takeNumber : MethodName := ⟨RX5, "takeNumber", "()I"⟩
abbrev cX5_readLine : ByteArray := prog_7_method_16_code
def yX5_readLine : MethodName := ⟨RX5, "readLine", "()Z"⟩
abbrev cX5_keepLine : ByteArray := prog_7_method_17_code
def yX5_keepLine : MethodName := ⟨RX5, "keepLine", "(II)V"⟩
abbrev cX5_readTerm : ByteArray := prog_7_method_18_code
def yX5_readTerm : MethodName := ⟨RX5, "readTerm", "(I)Z"⟩
abbrev cX5_readBoth : ByteArray := prog_7_method_19_code
def yX5_readBoth : MethodName := ⟨RX5, "readBoth", "(I)Z"⟩
abbrev cX5_readOne : ByteArray := prog_7_method_20_code
def yX5_readOne : MethodName := ⟨RX5, "readOne", "(I)Z"⟩
abbrev cX5_readComparison : ByteArray := prog_7_method_21_code
def yX5_readComparison : MethodName := ⟨RX5, "readComparison", "()Z"⟩
abbrev cX5_addStep : ByteArray := prog_7_method_22_code
def yX5_addStep : MethodName := ⟨RX5, "addStep", "(I)V"⟩
def RX6 : String := "IcePilots$Tape"
def TX6 : u_T := fun k => match k with
  | 0 => ("IcePilots$Tape", "bytes", "[I", true)
  | _ => ("IcePilots$Tape", "length", "I", false)
def tyX6 : Nat → FieldType := fun k => match k with
  | 0 => .array .int
  | _ => .int
abbrev wsX60 : List Cond := u_ws RX6 TX6 2
theorem nmX6 : ∀ a, a < 2 → ∀ b, b < 2 → a ≠ b → (TX6 a).2.1 ≠ (TX6 b).2.1 := by decide +kernel
theorem tyX6_ok : ∀ k, k < 2 → parseFieldDescriptor (TX6 k).2.2.1 = some (tyX6 k) := by decide +kernel
abbrev cX6_init : ByteArray := prog_8_method_1_code
def yX6_init : MethodName := ⟨RX6, "<init>", "()V"⟩
abbrev cX6_append : ByteArray := prog_8_method_2_code
def yX6_append : MethodName := ⟨RX6, "append", "(I)V"⟩
abbrev cX6_at : ByteArray := prog_8_method_3_code
def yX6_at : MethodName := ⟨RX6, "at", "(I)I"⟩
abbrev cX6_copy : ByteArray := prog_8_method_4_code
def yX6_copy : MethodName := ⟨RX6, "copy", "(LIcePilots$Tape;)V"⟩
def RX7 : String := "IcePilots$Weather"
def TX7 : u_T := fun k => match k with
  | 0 => ("IcePilots$Weather", "cold", "[I", true)
  | 1 => ("IcePilots$Weather", "way", "[I", true)
  | _ => ("IcePilots$Weather", "force", "[I", true)
def tyX7 : Nat → FieldType := fun k => match k with
  | 0 => .array .int
  | 1 => .array .int
  | _ => .array .int
abbrev wsX70 : List Cond := u_ws RX7 TX7 3
theorem nmX7 : ∀ a, a < 3 → ∀ b, b < 3 → a ≠ b → (TX7 a).2.1 ≠ (TX7 b).2.1 := by decide +kernel
theorem tyX7_ok : ∀ k, k < 3 → parseFieldDescriptor (TX7 k).2.2.1 = some (tyX7 k) := by decide +kernel
abbrev cX7_init : ByteArray := prog_9_method_1_code
def yX7_init : MethodName := ⟨RX7, "<init>", "()V"⟩
abbrev cX7_put : ByteArray := prog_9_method_2_code
def yX7_put : MethodName := ⟨RX7, "put", "(IIIII)V"⟩
abbrev cX7_copy : ByteArray := prog_9_method_3_code
def yX7_copy : MethodName := ⟨RX7, "copy", "(LIcePilots$Weather;)V"⟩
def RX8 : String := "IcePilots$Whole"
def TX8 : u_T := fun k => match k with
  | 0 => ("IcePilots$Whole", "gulf", "LIcePilots$Gulf;", true)
  | 1 => ("IcePilots$Whole", "tape", "LIcePilots$Tape;", true)
  | 2 => ("IcePilots$Whole", "convoy", "LIcePilots$Convoy;", true)
  | 3 => ("IcePilots$Whole", "fault", "I", false)
  | _ => ("IcePilots$Whole", "place", "I", false)
def tyX8 : Nat → FieldType := fun k => match k with
  | 0 => .object "IcePilots$Gulf"
  | 1 => .object "IcePilots$Tape"
  | 2 => .object "IcePilots$Convoy"
  | 3 => .int
  | _ => .int
abbrev wsX80 : List Cond := u_ws RX8 TX8 5
theorem nmX8 : ∀ a, a < 5 → ∀ b, b < 5 → a ≠ b → (TX8 a).2.1 ≠ (TX8 b).2.1 := by decide +kernel
theorem tyX8_ok : ∀ k, k < 5 → parseFieldDescriptor (TX8 k).2.2.1 = some (tyX8 k) := by decide +kernel
abbrev cX8_init : ByteArray := prog_10_method_1_code
def yX8_init : MethodName := ⟨RX8, "<init>", "()V"⟩
abbrev cX8_copy : ByteArray := prog_10_method_2_code
def yX8_copy : MethodName := ⟨RX8, "copy", "(LIcePilots$Whole;)V"⟩
def RX9 : String := "IcePilots$Words"
def TX9 : u_T := fun k => match k with
  | _ => ("", "", "", false)
def tyX9 : Nat → FieldType := fun k => match k with
  | _ => .int
abbrev wsX90 : List Cond := u_ws RX9 TX9 0
theorem nmX9 : ∀ a, a < 0 → ∀ b, b < 0 → a ≠ b → (TX9 a).2.1 ≠ (TX9 b).2.1 := by decide +kernel
theorem tyX9_ok : ∀ k, k < 0 → parseFieldDescriptor (TX9 k).2.2.1 = some (tyX9 k) := by decide +kernel
abbrev cX9_find : ByteArray := prog_11_method_2_code
def yX9_find : MethodName := ⟨RX9, "find", "(LIcePilots$Tape;II)I"⟩
abbrev cX9_stands : ByteArray := prog_11_method_3_code
def yX9_stands : MethodName := ⟨RX9, "stands", "(ILIcePilots$Tape;II)Z"⟩
abbrev cX9_isWhat : ByteArray := prog_11_method_4_code
def yX9_isWhat : MethodName := ⟨RX9, "isWhat", "(I)Z"⟩
abbrev cX9_isAct : ByteArray := prog_11_method_5_code
def yX9_isAct : MethodName := ⟨RX9, "isAct", "(I)Z"⟩
def RX10 : String := "IcePilots"
def TX10 : u_T := fun k => match k with
  | 0 => ("IcePilots", "now", "LIcePilots$Whole;", true)
  | 1 => ("IcePilots", "images", "[LIcePilots$Whole;", true)
  | 2 => ("IcePilots", "foretold", "LIcePilots$Gulf;", true)
  | _ => ("IcePilots", "reader", "LIcePilots$Reader;", true)
def tyX10 : Nat → FieldType := fun k => match k with
  | 0 => .object "IcePilots$Whole"
  | 1 => .array (.object "IcePilots$Whole")
  | 2 => .object "IcePilots$Gulf"
  | _ => .object "IcePilots$Reader"
abbrev wsX100 : List Cond := u_ws RX10 TX10 4
theorem nmX10 : ∀ a, a < 4 → ∀ b, b < 4 → a ≠ b → (TX10 a).2.1 ≠ (TX10 b).2.1 := by decide +kernel
theorem tyX10_ok : ∀ k, k < 4 → parseFieldDescriptor (TX10 k).2.2.1 = some (tyX10 k) := by decide +kernel
abbrev cX10_init : ByteArray := prog_1_method_1_code
def yX10_init : MethodName := ⟨RX10, "<init>", "()V"⟩
abbrev cX10_gulf : ByteArray := prog_1_method_2_code
def yX10_gulf : MethodName := ⟨RX10, "gulf", "(II)Z"⟩
abbrev cX10_land : ByteArray := prog_1_method_3_code
def yX10_land : MethodName := ⟨RX10, "land", "(IIZ)Z"⟩
abbrev cX10_ice : ByteArray := prog_1_method_4_code
def yX10_ice : MethodName := ⟨RX10, "ice", "(IIIIZ)Z"⟩
abbrev cX10_weather : ByteArray := prog_1_method_5_code
def yX10_weather : MethodName := ⟨RX10, "weather", "(IIIII)Z"⟩
abbrev cX10_ship : ByteArray := prog_1_method_6_code
def yX10_ship : MethodName := ⟨RX10, "ship", "(IIII)I"⟩
abbrev cX10_feed : ByteArray := prog_1_method_7_code
def yX10_feed : MethodName := ⟨RX10, "feed", "(IIIII)I"⟩
abbrev cX10_end : ByteArray := prog_1_method_8_code
def yX10_end : MethodName := ⟨RX10, "end", "(I)I"⟩
abbrev cX10_orders : ByteArray := prog_1_method_9_code
def yX10_orders : MethodName := ⟨RX10, "orders", "(I)I"⟩
abbrev cX10_fault : ByteArray := prog_1_method_10_code
def yX10_fault : MethodName := ⟨RX10, "fault", "(I)I"⟩
abbrev cX10_call : ByteArray := prog_1_method_11_code
def yX10_call : MethodName := ⟨RX10, "call", "(II)Z"⟩
abbrev cX10_hours : ByteArray := prog_1_method_12_code
def yX10_hours : MethodName := ⟨RX10, "hours", "(I)I"⟩
abbrev cX10_ahead : ByteArray := prog_1_method_13_code
def yX10_ahead : MethodName := ⟨RX10, "ahead", "(III)I"⟩
abbrev cX10_cell : ByteArray := prog_1_method_14_code
def yX10_cell : MethodName := ⟨RX10, "cell", "(III)I"⟩
abbrev cX10_tell : ByteArray := prog_1_method_15_code
def yX10_tell : MethodName := ⟨RX10, "tell", "(II)I"⟩
abbrev cX10_count : ByteArray := prog_1_method_16_code
def yX10_count : MethodName := ⟨RX10, "count", "(I)I"⟩
abbrev cX10_passage : ByteArray := prog_1_method_17_code
def yX10_passage : MethodName := ⟨RX10, "passage", "(III)I"⟩
abbrev cX10_clear : ByteArray := prog_1_method_18_code
def yX10_clear : MethodName := ⟨RX10, "clear", "()V"⟩
abbrev cX10_turns : ByteArray := prog_1_method_19_code
def yX10_turns : MethodName := ⟨RX10, "turns", "(I)I"⟩
abbrev cX10_turn : ByteArray := prog_1_method_20_code
def yX10_turn : MethodName := ⟨RX10, "turn", "(I)I"⟩
abbrev cX10_cost : ByteArray := prog_1_method_21_code
def yX10_cost : MethodName := ⟨RX10, "cost", "(II)I"⟩
abbrev cX10_image : ByteArray := prog_1_method_22_code
def yX10_image : MethodName := ⟨RX10, "image", "(I)Z"⟩
abbrev cX10_again : ByteArray := prog_1_method_23_code
def yX10_again : MethodName := ⟨RX10, "again", "(I)Z"⟩
abbrev cX10_within : ByteArray := prog_1_method_24_code
def yX10_within : MethodName := ⟨RX10, "within", "(III)Z"⟩
abbrev cX10_canPass : ByteArray := prog_1_method_25_code
def yX10_canPass : MethodName := ⟨RX10, "canPass", "(I)Z"⟩
abbrev cX10_foretoldOfShip : ByteArray := prog_1_method_26_code
def yX10_foretoldOfShip : MethodName := ⟨RX10, "foretoldOfShip", "(II)I"⟩
def RX11 : String := "IcePilotsModel"
def TX11 : u_T := fun k => match k with
  | 0 => ("IcePilotsModel", "all", "[I", true)
  | 1 => ("IcePilotsModel", "has", "[Z", true)
  | 2 => ("IcePilotsModel", "size", "I", false)
  | 3 => ("IcePilotsModel", "next", "I", false)
  | 4 => ("IcePilotsModel", "where", "I", false)
  | 5 => ("IcePilotsModel", "token", "I", false)
  | 6 => ("IcePilotsModel", "number", "I", false)
  | 7 => ("IcePilotsModel", "sign", "I", false)
  | 8 => ("IcePilotsModel", "word", "I", false)
  | 9 => ("IcePilotsModel", "wrong", "Z", false)
  | 10 => ("IcePilotsModel", "open", "I", false)
  | 11 => ("IcePilotsModel", "lines", "I", false)
  | 12 => ("IcePilotsModel", "acts", "I", false)
  | 13 => ("IcePilotsModel", "line", "[I", true)
  | 14 => ("IcePilotsModel", "act", "[I", true)
  | 15 => ("IcePilotsModel", "pile", "[Z", true)
  | 16 => ("IcePilotsModel", "comes", "[I", true)
  | 17 => ("IcePilotsModel", "leaves", "[I", true)
  | 18 => ("IcePilotsModel", "tried", "[I", true)
  | _ => ("IcePilotsModel", "met", "[Z", true)
def tyX11 : Nat → FieldType := fun k => match k with
  | 0 => .array .int
  | 1 => .array .boolean
  | 2 => .int
  | 3 => .int
  | 4 => .int
  | 5 => .int
  | 6 => .int
  | 7 => .int
  | 8 => .int
  | 9 => .boolean
  | 10 => .int
  | 11 => .int
  | 12 => .int
  | 13 => .array .int
  | 14 => .array .int
  | 15 => .array .boolean
  | 16 => .array .int
  | 17 => .array .int
  | 18 => .array .int
  | _ => .array .boolean
abbrev wsX110 : List Cond := u_ws RX11 TX11 20
theorem nmX11 : ∀ a, a < 20 → ∀ b, b < 20 → a ≠ b → (TX11 a).2.1 ≠ (TX11 b).2.1 := by decide +kernel
theorem tyX11_ok : ∀ k, k < 20 → parseFieldDescriptor (TX11 k).2.2.1 = some (tyX11 k) := by decide +kernel
abbrev cX11_init : ByteArray := prog_13_method_1_code
def yX11_init : MethodName := ⟨RX11, "<init>", "()V"⟩
abbrev cX11_isIn : ByteArray := prog_13_method_2_code
def yX11_isIn : MethodName := ⟨RX11, "isIn", "(III)Z"⟩
abbrev cX11_begins : ByteArray := prog_13_method_3_code
def yX11_begins : MethodName := ⟨RX11, "begins", "(II)V"⟩
abbrev cX11_gulf : ByteArray := prog_13_method_4_code
def yX11_gulf : MethodName := ⟨RX11, "gulf", "(II)Z"⟩
abbrev cX11_isCell : ByteArray := prog_13_method_5_code
def yX11_isCell : MethodName := ⟨RX11, "isCell", "(II)Z"⟩
abbrev cX11_of : ByteArray := prog_13_method_6_code
def yX11_of : MethodName := ⟨RX11, "of", "(III)I"⟩
abbrev cX11_sets : ByteArray := prog_13_method_7_code
def yX11_sets : MethodName := ⟨RX11, "sets", "(IIII)V"⟩
abbrev cX11_isSea : ByteArray := prog_13_method_8_code
def yX11_isSea : MethodName := ⟨RX11, "isSea", "(II)Z"⟩
abbrev cX11_its : ByteArray := prog_13_method_9_code
def yX11_its : MethodName := ⟨RX11, "its", "(II)I"⟩
abbrev cX11_ships : ByteArray := prog_13_method_10_code
def yX11_ships : MethodName := ⟨RX11, "ships", "(III)V"⟩
abbrev cX11_shipAt : ByteArray := prog_13_method_11_code
def yX11_shipAt : MethodName := ⟨RX11, "shipAt", "(II)I"⟩
abbrev cX11_land : ByteArray := prog_13_method_12_code
def yX11_land : MethodName := ⟨RX11, "land", "(IIZ)Z"⟩
abbrev cX11_ice : ByteArray := prog_13_method_13_code
def yX11_ice : MethodName := ⟨RX11, "ice", "(IIIIZ)Z"⟩
abbrev cX11_weather : ByteArray := prog_13_method_14_code
def yX11_weather : MethodName := ⟨RX11, "weather", "(IIIII)Z"⟩
abbrev cX11_ship : ByteArray := prog_13_method_15_code
def yX11_ship : MethodName := ⟨RX11, "ship", "(IIII)I"⟩
abbrev cX11_isShip : ByteArray := prog_13_method_16_code
def yX11_isShip : MethodName := ⟨RX11, "isShip", "(I)Z"⟩
abbrev cX11_feed : ByteArray := prog_13_method_17_code
def yX11_feed : MethodName := ⟨RX11, "feed", "(IIIII)I"⟩
abbrev cX11_end : ByteArray := prog_13_method_18_code
def yX11_end : MethodName := ⟨RX11, "end", "(I)I"⟩
abbrev cX11_byteAt : ByteArray := prog_13_method_19_code
def yX11_byteAt : MethodName := ⟨RX11, "byteAt", "(I)I"⟩
abbrev cX11_isLetter : ByteArray := prog_13_method_20_code
def yX11_isLetter : MethodName := ⟨RX11, "isLetter", "(I)Z"⟩
abbrev cX11_isDigit : ByteArray := prog_13_method_21_code
def yX11_isDigit : MethodName := ⟨RX11, "isDigit", "(I)Z"⟩
abbrev cX11_two : ByteArray := prog_13_method_22_code
def yX11_two : MethodName := ⟨RX11, "two", "(II)J"⟩
abbrev cX11_four : ByteArray := prog_13_method_23_code
def yX11_four : MethodName := ⟨RX11, "four", "(IIII)J"⟩
abbrev cX11_wordOf : ByteArray := prog_13_method_24_code
def yX11_wordOf : MethodName := ⟨RX11, "wordOf", "(J)I"⟩
abbrev cX11_isSignByte : ByteArray := prog_13_method_25_code
def yX11_isSignByte : MethodName := ⟨RX11, "isSignByte", "(I)Z"⟩
abbrev cX11_advance : ByteArray := prog_13_method_26_code
def yX11_advance : MethodName := ⟨RX11, "advance", "()V"⟩
abbrev cX11_stops : ByteArray := prog_13_method_27_code
def yX11_stops : MethodName := ⟨RX11, "stops", "()V"⟩
abbrev cX11_isWord : ByteArray := prog_13_method_28_code
def yX11_isWord : MethodName := ⟨RX11, "isWord", "(I)Z"⟩
abbrev cX11_isSign : ByteArray := prog_13_method_29_code
def yX11_isSign : MethodName := ⟨RX11, "isSign", "(I)Z"⟩
abbrev cX11_takesWord : ByteArray := prog_13_method_30_code
def yX11_takesWord : MethodName := ⟨RX11, "takesWord", "(I)Z"⟩
abbrev cX11_must : ByteArray := prog_13_method_31_code
def yX11_must : MethodName := ⟨RX11, "must", "(I)V"⟩
abbrev cX11_numbered : ByteArray := prog_13_method_32_code
def yX11_numbered : MethodName := ⟨RX11, "numbered", "()I"⟩
abbrev cX11_emit : ByteArray := prog_13_method_33_code
def yX11_emit : MethodName := ⟨RX11, "emit", "(III)V"⟩
abbrev cX11_anyOf : ByteArray := prog_13_method_34_code
def yX11_anyOf : MethodName := ⟨RX11, "anyOf", "()V"⟩
abbrev cX11_allOf : ByteArray := prog_13_method_35_code
def yX11_allOf : MethodName := ⟨RX11, "allOf", "()V"⟩
abbrev cX11_notOf : ByteArray := prog_13_method_36_code
def yX11_notOf : MethodName := ⟨RX11, "notOf", "()V"⟩
abbrev cX11_atom : ByteArray := prog_13_method_37_code
def yX11_atom : MethodName := ⟨RX11, "atom", "()V"⟩
abbrev cX11_aLine : ByteArray := prog_13_method_38_code
def yX11_aLine : MethodName := ⟨RX11, "aLine", "()V"⟩
abbrev cX11_orders : ByteArray := prog_13_method_39_code
def yX11_orders : MethodName := ⟨RX11, "orders", "(I)I"⟩
abbrev cX11_fault : ByteArray := prog_13_method_40_code
def yX11_fault : MethodName := ⟨RX11, "fault", "(I)I"⟩
abbrev cX11_call : ByteArray := prog_13_method_41_code
def yX11_call : MethodName := ⟨RX11, "call", "(II)Z"⟩
abbrev cX11_rowTo : ByteArray := prog_13_method_42_code
def yX11_rowTo : MethodName := ⟨RX11, "rowTo", "(I)I"⟩
abbrev cX11_columnTo : ByteArray := prog_13_method_43_code
def yX11_columnTo : MethodName := ⟨RX11, "columnTo", "(I)I"⟩
abbrev cX11_burden : ByteArray := prog_13_method_44_code
def yX11_burden : MethodName := ⟨RX11, "burden", "(II)I"⟩
abbrev cX11_beside : ByteArray := prog_13_method_45_code
def yX11_beside : MethodName := ⟨RX11, "beside", "(II)I"⟩
abbrev cX11_isHeld : ByteArray := prog_13_method_46_code
def yX11_isHeld : MethodName := ⟨RX11, "isHeld", "(I)Z"⟩
abbrev cX11_there : ByteArray := prog_13_method_47_code
def yX11_there : MethodName := ⟨RX11, "there", "(II)I"⟩
abbrev cX11_asked : ByteArray := prog_13_method_48_code
def yX11_asked : MethodName := ⟨RX11, "asked", "(II)I"⟩
abbrev cX11_holds : ByteArray := prog_13_method_49_code
def yX11_holds : MethodName := ⟨RX11, "holds", "(II)Z"⟩
abbrev cX11_goes : ByteArray := prog_13_method_50_code
def yX11_goes : MethodName := ⟨RX11, "goes", "(II)Z"⟩
abbrev cX11_cuts : ByteArray := prog_13_method_51_code
def yX11_cuts : MethodName := ⟨RX11, "cuts", "(I)Z"⟩
abbrev cX11_does : ByteArray := prog_13_method_52_code
def yX11_does : MethodName := ⟨RX11, "does", "(III)Z"⟩
abbrev cX11_obeys : ByteArray := prog_13_method_53_code
def yX11_obeys : MethodName := ⟨RX11, "obeys", "(I)V"⟩
abbrev cX11_freezes : ByteArray := prog_13_method_54_code
def yX11_freezes : MethodName := ⟨RX11, "freezes", "(III)V"⟩
abbrev cX11_drifts : ByteArray := prog_13_method_55_code
def yX11_drifts : MethodName := ⟨RX11, "drifts", "(II)V"⟩
abbrev cX11_anHour : ByteArray := prog_13_method_56_code
def yX11_anHour : MethodName := ⟨RX11, "anHour", "()V"⟩
abbrev cX11_mayGo : ByteArray := prog_13_method_57_code
def yX11_mayGo : MethodName := ⟨RX11, "mayGo", "(I)Z"⟩
abbrev cX11_hours : ByteArray := prog_13_method_58_code
def yX11_hours : MethodName := ⟨RX11, "hours", "(I)I"⟩
abbrev cX11_iceOf : ByteArray := prog_13_method_59_code
def yX11_iceOf : MethodName := ⟨RX11, "iceOf", "(I)I"⟩
abbrev cX11_copies : ByteArray := prog_13_method_60_code
def yX11_copies : MethodName := ⟨RX11, "copies", "(II)V"⟩
abbrev cX11_ahead : ByteArray := prog_13_method_61_code
def yX11_ahead : MethodName := ⟨RX11, "ahead", "(III)I"⟩
abbrev cX11_cell : ByteArray := prog_13_method_62_code
def yX11_cell : MethodName := ⟨RX11, "cell", "(III)I"⟩
abbrev cX11_tell : ByteArray := prog_13_method_63_code
def yX11_tell : MethodName := ⟨RX11, "tell", "(II)I"⟩
abbrev cX11_count : ByteArray := prog_13_method_64_code
def yX11_count : MethodName := ⟨RX11, "count", "(I)I"⟩
abbrev cX11_passage : ByteArray := prog_13_method_65_code
def yX11_passage : MethodName := ⟨RX11, "passage", "(III)I"⟩
abbrev cX11_clear : ByteArray := prog_13_method_66_code
def yX11_clear : MethodName := ⟨RX11, "clear", "()V"⟩
abbrev cX11_isOrder : ByteArray := prog_13_method_67_code
def yX11_isOrder : MethodName := ⟨RX11, "isOrder", "()Z"⟩
abbrev cX11_costs : ByteArray := prog_13_method_68_code
def yX11_costs : MethodName := ⟨RX11, "costs", "(I)I"⟩
abbrev cX11_turns : ByteArray := prog_13_method_69_code
def yX11_turns : MethodName := ⟨RX11, "turns", "(I)I"⟩
abbrev cX11_turn : ByteArray := prog_13_method_70_code
def yX11_turn : MethodName := ⟨RX11, "turn", "(I)I"⟩
abbrev cX11_cost : ByteArray := prog_13_method_71_code
def yX11_cost : MethodName := ⟨RX11, "cost", "(II)I"⟩
abbrev cX11_image : ByteArray := prog_13_method_72_code
def yX11_image : MethodName := ⟨RX11, "image", "(I)Z"⟩
abbrev cX11_again : ByteArray := prog_13_method_73_code
def yX11_again : MethodName := ⟨RX11, "again", "(I)Z"⟩
def RJx8e188 : String := "java/lang/Cloneable"
def TJx8e188 : u_T := fun k => match k with
  | _ => ("", "", "", false)
def tyJx8e188 : Nat → FieldType := fun k => match k with
  | _ => .int
abbrev wsJx8e1880 : List Cond := u_ws RJx8e188 TJx8e188 0
theorem nmJx8e188 : ∀ a, a < 0 → ∀ b, b < 0 → a ≠ b → (TJx8e188 a).2.1 ≠ (TJx8e188 b).2.1 := by decide +kernel
theorem tyJx8e188_ok : ∀ k, k < 0 → parseFieldDescriptor (TJx8e188 k).2.2.1 = some (tyJx8e188 k) := by decide +kernel
def RJ9 : String := "java/lang/Math"
def TJ9 : u_T := fun k => match k with
  | _ => ("", "", "", false)
def tyJ9 : Nat → FieldType := fun k => match k with
  | _ => .int
abbrev wsJ90 : List Cond := u_ws RJ9 TJ9 0
theorem nmJ9 : ∀ a, a < 0 → ∀ b, b < 0 → a ≠ b → (TJ9 a).2.1 ≠ (TJ9 b).2.1 := by decide +kernel
theorem tyJ9_ok : ∀ k, k < 0 → parseFieldDescriptor (TJ9 k).2.2.1 = some (tyJ9 k) := by decide +kernel
abbrev cJ9_max_7cf53 : ByteArray := prog_15_method_65_code
def yJ9_max_7cf53 : MethodName := ⟨RJ9, "max", "(II)I"⟩
abbrev cJ9_min_7cf53 : ByteArray := prog_15_method_69_code
def yJ9_min_7cf53 : MethodName := ⟨RJ9, "min", "(II)I"⟩
def RJ0 : String := "java/lang/String"
def TJ0 : u_T := fun k => match k with
  | _ => ("", "", "", false)
def tyJ0 : Nat → FieldType := fun k => match k with
  | _ => .int
abbrev wsJ00 : List Cond := u_ws RJ0 TJ0 0
theorem nmJ0 : ∀ a, a < 0 → ∀ b, b < 0 → a ≠ b → (TJ0 a).2.1 ≠ (TJ0 b).2.1 := by decide +kernel
theorem tyJ0_ok : ∀ k, k < 0 → parseFieldDescriptor (TJ0 k).2.2.1 = some (tyJ0 k) := by decide +kernel
abbrev cJ0_charAt_5068e : ByteArray := prog_16_method_56_code
def yJ0_charAt_5068e : MethodName := ⟨RJ0, "charAt", "(I)C"⟩
abbrev cJ0_isLatin1_aae02 : ByteArray := prog_16_method_154_code
def yJ0_isLatin1_aae02 : MethodName := ⟨RJ0, "isLatin1", "()Z"⟩
abbrev cJ0_checkIndex_df160 : ByteArray := prog_16_method_155_code
def yJ0_checkIndex_df160 : MethodName := ⟨RJ0, "checkIndex", "(II)V"⟩
def RJ1 : String := "java/lang/StringLatin1"
def TJ1 : u_T := fun k => match k with
  | _ => ("", "", "", false)
def tyJ1 : Nat → FieldType := fun k => match k with
  | _ => .int
abbrev wsJ10 : List Cond := u_ws RJ1 TJ1 0
theorem nmJ1 : ∀ a, a < 0 → ∀ b, b < 0 → a ≠ b → (TJ1 a).2.1 ≠ (TJ1 b).2.1 := by decide +kernel
theorem tyJ1_ok : ∀ k, k < 0 → parseFieldDescriptor (TJ1 k).2.2.1 = some (tyJ1 k) := by decide +kernel
abbrev cJ1_charAt_3b067 : ByteArray := prog_17_method_2_code
def yJ1_charAt_3b067 : MethodName := ⟨RJ1, "charAt", "([BI)C"⟩
def RJ2 : String := "java/lang/StringUTF16"
def TJ2 : u_T := fun k => match k with
  | _ => ("", "", "", false)
def tyJ2 : Nat → FieldType := fun k => match k with
  | _ => .int
abbrev wsJ20 : List Cond := u_ws RJ2 TJ2 0
theorem nmJ2 : ∀ a, a < 0 → ∀ b, b < 0 → a ≠ b → (TJ2 a).2.1 ≠ (TJ2 b).2.1 := by decide +kernel
theorem tyJ2_ok : ∀ k, k < 0 → parseFieldDescriptor (TJ2 k).2.2.1 = some (tyJ2 k) := by decide +kernel
abbrev cJ2_getChar_3b067 : ByteArray := prog_18_method_5_code
def yJ2_getChar_3b067 : MethodName := ⟨RJ2, "getChar", "([BI)C"⟩
abbrev cJ2_length_9d52b : ByteArray := prog_18_method_6_code
def yJ2_length_9d52b : MethodName := ⟨RJ2, "length", "([B)I"⟩
abbrev cJ2_charAt_3b067 : ByteArray := prog_18_method_83_code
def yJ2_charAt_3b067 : MethodName := ⟨RJ2, "charAt", "([BI)C"⟩
abbrev cJ2_checkIndex_2214a : ByteArray := prog_18_method_91_code
def yJ2_checkIndex_2214a : MethodName := ⟨RJ2, "checkIndex", "(I[B)V"⟩
def RJ10 : String := "java/lang/System"
def TJ10 : u_T := fun k => match k with
  | _ => ("", "", "", false)
def tyJ10 : Nat → FieldType := fun k => match k with
  | _ => .int
abbrev wsJ100 : List Cond := u_ws RJ10 TJ10 0
theorem nmJ10 : ∀ a, a < 0 → ∀ b, b < 0 → a ≠ b → (TJ10 a).2.1 ≠ (TJ10 b).2.1 := by decide +kernel
theorem tyJ10_ok : ∀ k, k < 0 → parseFieldDescriptor (TJ10 k).2.2.1 = some (tyJ10 k) := by decide +kernel
def RJ7 : String := "java/util/Arrays"
def TJ7 : u_T := fun k => match k with
  | _ => ("", "", "", false)
def tyJ7 : Nat → FieldType := fun k => match k with
  | _ => .int
abbrev wsJ70 : List Cond := u_ws RJ7 TJ7 0
theorem nmJ7 : ∀ a, a < 0 → ∀ b, b < 0 → a ≠ b → (TJ7 a).2.1 ≠ (TJ7 b).2.1 := by decide +kernel
theorem tyJ7_ok : ∀ k, k < 0 → parseFieldDescriptor (TJ7 k).2.2.1 = some (tyJ7 k) := by decide +kernel
abbrev cJ7_fill_53178 : ByteArray := prog_20_method_103_code
def yJ7_fill_53178 : MethodName := ⟨RJ7, "fill", "([II)V"⟩
abbrev cJ7_copyOf_59c91 : ByteArray := prog_20_method_123_code
def yJ7_copyOf_59c91 : MethodName := ⟨RJ7, "copyOf", "([II)[I"⟩
def RJ3 : String := "jdk/internal/util/Preconditions"
def TJ3 : u_T := fun k => match k with
  | _ => ("", "", "", false)
def tyJ3 : Nat → FieldType := fun k => match k with
  | _ => .int
abbrev wsJ30 : List Cond := u_ws RJ3 TJ3 0
theorem nmJ3 : ∀ a, a < 0 → ∀ b, b < 0 → a ≠ b → (TJ3 a).2.1 ≠ (TJ3 b).2.1 := by decide +kernel
theorem tyJ3_ok : ∀ k, k < 0 → parseFieldDescriptor (TJ3 k).2.2.1 = some (tyJ3 k) := by decide +kernel
abbrev cJ3_checkIndex_8e157 : ByteArray := prog_21_method_11_code
def yJ3_checkIndex_8e157 : MethodName := ⟨RJ3, "checkIndex", "(IILjava/util/function/BiFunction;)I"⟩
def RL : String := "IcePilotsLaw"
abbrev cL_law : ByteArray := code
def yL_law : MethodName := ⟨RL, "law", "([I)Z"⟩
def gC0 : List Cond := [Cond.code yX0_init cX0_init 1 none, Cond.methodLink RX0 3 objectInit, Cond.instanceMethod objectInit, Cond.code objectInit ⟨#[0xb1]⟩ 1 none, Cond.arrayClass .int, Cond.fieldLink RX0 9 "IcePilots$Convoy" "from" "[I", Cond.fieldLink RX0 15 "IcePilots$Convoy" "takes" "[I", Cond.fieldLink RX0 18 "IcePilots$Convoy" "worth" "[I", Cond.fieldLink RX0 21 "IcePilots$Convoy" "settled" "[I", Cond.fieldLink RX0 24 "IcePilots$Convoy" "tried" "[I", Cond.fieldLink RX0 27 "IcePilots$Convoy" "size" "I", Cond.fieldLink RX0 31 "IcePilots$Convoy" "settledSize" "I", Cond.code yX0_copy cX0_copy 2 none, Cond.methodLink RX0 34 arraycopyName, Cond.native arraycopyName, Cond.static arraycopyName, Cond.initialized "java/lang/System", Cond.code yX0_join cX0_join 4 (some .int), Cond.code yX0_waiting cX0_waiting 9 (some .int), Cond.methodLink RX0 51 Lib.Math.max.name, Cond.static Lib.Math.max.name, Cond.initialized "java/lang/Math", Cond.code Lib.Math.max.name Lib.Math.max.code 2 (some .int), Cond.code yX0_keepTried cX0_keepTried 1 none, Cond.code yX0_swap cX0_swap 4 none, Cond.code yX0_tryNext cX0_tryNext 5 (some .boolean), Cond.methodLink RX0 57 yX0_swap, Cond.instanceMethod yX0_swap, Cond.selects RX0 yX0_swap yX0_swap, Cond.initialized RX0, Cond.methodLink RX0 40 yX0_waiting, Cond.instanceMethod yX0_waiting, Cond.selects RX0 yX0_waiting yX0_waiting, Cond.methodLink RX0 44 yX0_keepTried, Cond.instanceMethod yX0_keepTried, Cond.selects RX0 yX0_keepTried yX0_keepTried, Cond.methodLink RX0 47 yX0_tryNext, Cond.instanceMethod yX0_tryNext, Cond.selects RX0 yX0_tryNext yX0_tryNext, Cond.code yX0_settle cX0_settle 5 (some .int)]
def gC1 : List Cond := [Cond.code yX0_tryDigits cX0_tryDigits 5 (some .boolean), Cond.code yX1_init cX1_init 1 none, Cond.methodLink RX1 3 objectInit, Cond.fieldLink RX1 9 "IcePilots$Fleet" "strength" "[I", Cond.fieldLink RX1 15 "IcePilots$Fleet" "fuel" "[I", Cond.fieldLink RX1 18 "IcePilots$Fleet" "place" "[I", Cond.fieldLink RX1 21 "IcePilots$Fleet" "told" "[I", Cond.fieldLink RX1 24 "IcePilots$Fleet" "moved" "[I", Cond.fieldLink RX1 27 "IcePilots$Fleet" "line" "[I", Cond.arrayClass .boolean, Cond.fieldLink RX1 30 "IcePilots$Fleet" "done" "[Z", Cond.classLink RX1 34 RX4, Cond.fieldLink RX1 36 "IcePilots$Fleet" "orders" "[LIcePilots$Orders;", Cond.fieldLink RX1 40 "IcePilots$Fleet" "size" "I", Cond.code yX1_copy cX1_copy 3 none, Cond.methodLink RX1 44 arraycopyName, Cond.code yX1_join cX1_join 4 (some .int), Cond.code yX1_has cX1_has 2 (some .boolean), Cond.code yX1_isBreaker cX1_isBreaker 2 (some .boolean), Cond.code yX1_linesOf cX1_linesOf 3 (some .int), Cond.fieldLink RX1 50 "IcePilots$Orders" "acts" "[I", Cond.code yX1_shipIn cX1_shipIn 3 (some .int), Cond.code yX1_beside cX1_beside 5 (some .boolean), Cond.code yX1_breakerBeside cX1_breakerBeside 3 (some .boolean), Cond.methodLink RX1 53 yX1_isBreaker, Cond.instanceMethod yX1_isBreaker, Cond.selects RX1 yX1_isBreaker yX1_isBreaker, Cond.initialized RX1, Cond.methodLink RX1 57 yX1_beside, Cond.instanceMethod yX1_beside, Cond.selects RX1 yX1_beside yX1_beside, Cond.code yX1_shipsBeside cX1_shipsBeside 4 (some .int), Cond.code yX1_tellOthers cX1_tellOthers 4 none, Cond.code yX3_init cX3_init 1 none, Cond.methodLink RX3 3 objectInit, Cond.fieldLink RX3 9 "IcePilots$Ice" "sea" "[Z", Cond.fieldLink RX3 15 "IcePilots$Ice" "fast" "[Z", Cond.fieldLink RX3 18 "IcePilots$Ice" "level" "[I", Cond.fieldLink RX3 22 "IcePilots$Ice" "ridged" "[I", Cond.fieldLink RX3 25 "IcePilots$Ice" "channel" "[I"]
def gC2 : List Cond := [Cond.fieldLink RX3 28 "IcePilots$Ice" "arrived" "[I", Cond.fieldLink RX3 31 "IcePilots$Ice" "rows" "I", Cond.fieldLink RX3 35 "IcePilots$Ice" "columns" "I", Cond.fieldLink RX3 38 "IcePilots$Ice" "laid" "I", Cond.fieldLink RX3 41 "IcePilots$Ice" "grown" "I", Cond.fieldLink RX3 44 "IcePilots$Ice" "melted" "I", Cond.methodLink RX2 3 objectInit, Cond.classLink RX2 9 RX3, Cond.instantiable RX3 11, Cond.initialized RX3, Cond.fieldLink RX2 12 "IcePilots$Gulf" "ice" "LIcePilots$Ice;", Cond.classLink RX2 18 RX1, Cond.instantiable RX1 9, Cond.fieldLink RX2 21 "IcePilots$Gulf" "fleet" "LIcePilots$Fleet;", Cond.fieldLink RX2 25 "IcePilots$Gulf" "hour" "I", Cond.fieldLink RX2 29 "IcePilots$Gulf" "weather" "LIcePilots$Weather;", Cond.instanceMethod yX3_init, Cond.instanceMethod yX1_init, Cond.code yX2_init cX2_init 2 none, Cond.code yX3_empty cX3_empty 3 none, Cond.code yX3_begin cX3_begin 4 none, Cond.methodLink RX3 47 yX3_empty, Cond.instanceMethod yX3_empty, Cond.selects RX3 yX3_empty yX3_empty, Cond.code yX7_put cX7_put 7 none, Cond.methodLink RX7 21 Lib.Math.max.name, Cond.fieldLink RX7 9 "IcePilots$Weather" "cold" "[I", Cond.fieldLink RX7 15 "IcePilots$Weather" "way" "[I", Cond.fieldLink RX7 18 "IcePilots$Weather" "force" "[I", Cond.fieldLink RX2 37 "IcePilots$Fleet" "size" "I", Cond.methodLink RX2 33 yX3_begin, Cond.instanceMethod yX3_begin, Cond.selects RX3 yX3_begin yX3_begin, Cond.methodLink RX2 40 yX7_put, Cond.instanceMethod yX7_put, Cond.selects RX7 yX7_put yX7_put, Cond.initialized RX7, Cond.code yX2_begin cX2_begin 3 none, Cond.code yX3_copy cX3_copy 2 none, Cond.methodLink RX3 51 arraycopyName]
def gC3 : List Cond := [Cond.methodLink RX2 46 yX3_copy, Cond.instanceMethod yX3_copy, Cond.selects RX3 yX3_copy yX3_copy, Cond.methodLink RX2 50 yX1_copy, Cond.instanceMethod yX1_copy, Cond.selects RX1 yX1_copy yX1_copy, Cond.code yX2_copyAllButWeather cX2_copyAllButWeather 2 none, Cond.code yX4_whatOf cX4_whatOf 1 (some .int), Cond.code yX3_burden cX3_burden 2 (some .int), Cond.fieldLink RX2 85 "IcePilots$Fleet" "place" "[I", Cond.fieldLink RX2 92 "IcePilots$Fleet" "strength" "[I", Cond.methodLink RX2 88 yX3_burden, Cond.instanceMethod yX3_burden, Cond.selects RX3 yX3_burden yX3_burden, Cond.methodLink RX2 95 yX1_breakerBeside, Cond.instanceMethod yX1_breakerBeside, Cond.selects RX1 yX1_breakerBeside yX1_breakerBeside, Cond.code yX2_held cX2_held 2 (some .boolean), Cond.code yX3_find cX3_find 3 (some .int), Cond.code yX3_next cX3_next 5 (some .int), Cond.methodLink RX3 57 yX3_find, Cond.instanceMethod yX3_find, Cond.selects RX3 yX3_find yX3_find, Cond.fieldLink RX2 166 "IcePilots$Ice" "sea" "[Z", Cond.methodLink RX2 163 yX3_next, Cond.instanceMethod yX3_next, Cond.selects RX3 yX3_next yX3_next, Cond.methodLink RX2 169 yX1_shipIn, Cond.instanceMethod yX1_shipIn, Cond.selects RX1 yX1_shipIn yX1_shipIn, Cond.code yX2_burdenSeen cX2_burdenSeen 4 (some .int), Cond.fieldLink RX2 142 "IcePilots$Ice" "level" "[I", Cond.fieldLink RX2 145 "IcePilots$Ice" "ridged" "[I", Cond.fieldLink RX2 148 "IcePilots$Fleet" "fuel" "[I", Cond.fieldLink RX2 157 "IcePilots$Fleet" "told" "[I", Cond.methodLink RX2 151 yX2_held, Cond.instanceMethod yX2_held, Cond.selects RX2 yX2_held yX2_held, Cond.initialized RX2, Cond.methodLink RX2 154 yX1_shipsBeside]
def gC4 : List Cond := [Cond.instanceMethod yX1_shipsBeside, Cond.selects RX1 yX1_shipsBeside yX1_shipsBeside, Cond.methodLink RX2 160 yX2_burdenSeen, Cond.instanceMethod yX2_burdenSeen, Cond.selects RX2 yX2_burdenSeen yX2_burdenSeen, Cond.code yX2_sight cX2_sight 4 (some .int), Cond.code yX4_agrees cX4_agrees 3 (some .boolean), Cond.fieldLink RX2 126 "IcePilots$Orders" "ends" "[I", Cond.fieldLink RX2 129 "IcePilots$Orders" "steps" "[I", Cond.methodLink RX2 132 yX4_whatOf, Cond.static yX4_whatOf, Cond.initialized RX4, Cond.methodLink RX2 135 yX2_sight, Cond.instanceMethod yX2_sight, Cond.selects RX2 yX2_sight yX2_sight, Cond.methodLink RX2 138 yX4_agrees, Cond.static yX4_agrees, Cond.code yX2_holds cX2_holds 8 (some .boolean), Cond.code yX2_cut cX2_cut 3 (some .boolean), Cond.fieldLink RX2 181 "IcePilots$Ice" "channel" "[I", Cond.fieldLink RX2 187 "IcePilots$Fleet" "moved" "[I", Cond.methodLink RX2 184 yX1_isBreaker, Cond.code yX2_move cX2_move 7 (some .boolean), Cond.methodLink RX2 172 yX2_cut, Cond.instanceMethod yX2_cut, Cond.selects RX2 yX2_cut yX2_cut, Cond.methodLink RX2 175 yX1_tellOthers, Cond.instanceMethod yX1_tellOthers, Cond.selects RX1 yX1_tellOthers yX1_tellOthers, Cond.methodLink RX2 178 yX2_move, Cond.instanceMethod yX2_move, Cond.selects RX2 yX2_move yX2_move, Cond.code yX2_carryOut cX2_carryOut 4 (some .boolean), Cond.fieldLink RX2 99 "IcePilots$Fleet" "line" "[I", Cond.fieldLink RX2 102 "IcePilots$Fleet" "done" "[Z", Cond.fieldLink RX2 106 "IcePilots$Fleet" "orders" "[LIcePilots$Orders;", Cond.fieldLink RX2 110 "IcePilots$Orders" "acts" "[I", Cond.fieldLink RX2 119 "IcePilots$Orders" "numbers" "[I", Cond.methodLink RX2 115 yX2_holds, Cond.instanceMethod yX2_holds]
def gC5 : List Cond := [Cond.selects RX2 yX2_holds yX2_holds, Cond.methodLink RX2 122 yX2_carryOut, Cond.instanceMethod yX2_carryOut, Cond.selects RX2 yX2_carryOut yX2_carryOut, Cond.code yX2_command cX2_command 4 none, Cond.code yX3_grow cX3_grow 4 none, Cond.code yX3_melt cX3_melt 5 none, Cond.code yJ7_fill_53178 cJ7_fill_53178 4 none, Cond.code yX3_send cX3_send 4 none, Cond.methodLink RX3 78 Lib.Math.min.name, Cond.static Lib.Math.min.name, Cond.code Lib.Math.min.name Lib.Math.min.code 2 (some .int), Cond.methodLink RX3 65 yJ7_fill_53178, Cond.static yJ7_fill_53178, Cond.initialized RJ7, Cond.methodLink RX3 71 yX3_next, Cond.methodLink RX3 74 yX3_send, Cond.instanceMethod yX3_send, Cond.selects RX3 yX3_send yX3_send, Cond.code yX3_drift cX3_drift 5 none, Cond.code yX3_closeChannels cX3_closeChannels 3 none, Cond.fieldLink RX2 57 "IcePilots$Weather" "cold" "[I", Cond.fieldLink RX2 67 "IcePilots$Weather" "way" "[I", Cond.fieldLink RX2 70 "IcePilots$Weather" "force" "[I", Cond.methodLink RX2 76 Lib.Math.max.name, Cond.methodLink RX2 53 yX2_command, Cond.instanceMethod yX2_command, Cond.selects RX2 yX2_command yX2_command, Cond.methodLink RX2 61 yX3_grow, Cond.instanceMethod yX3_grow, Cond.selects RX3 yX3_grow yX3_grow, Cond.methodLink RX2 64 yX3_melt, Cond.instanceMethod yX3_melt, Cond.selects RX3 yX3_melt yX3_melt, Cond.methodLink RX2 73 yX3_drift, Cond.instanceMethod yX3_drift, Cond.selects RX3 yX3_drift yX3_drift, Cond.methodLink RX2 82 yX3_closeChannels, Cond.instanceMethod yX3_closeChannels, Cond.selects RX3 yX3_closeChannels yX3_closeChannels]
def gC6 : List Cond := [Cond.code yX2_passHour cX2_passHour 2 none, Cond.code yX3_lay cX3_lay 4 none, Cond.code yX3_sumOf cX3_sumOf 4 (some .int), Cond.code yX3_allLevel cX3_allLevel 1 (some .int), Cond.methodLink RX3 61 yX3_sumOf, Cond.instanceMethod yX3_sumOf, Cond.selects RX3 yX3_sumOf yX3_sumOf, Cond.code yX3_allRidged cX3_allRidged 1 (some .int), Cond.code yX4_init cX4_init 5 none, Cond.methodLink RX4 1 objectInit, Cond.fieldLink RX4 7 "IcePilots$Orders" "steps" "[I", Cond.fieldLink RX4 13 "IcePilots$Orders" "ends" "[I", Cond.fieldLink RX4 16 "IcePilots$Orders" "acts" "[I", Cond.fieldLink RX4 19 "IcePilots$Orders" "numbers" "[I", Cond.code yX4_comparison cX4_comparison 3 (some .int), Cond.code yX5_init cX5_init 1 none, Cond.methodLink RX5 3 objectInit, Cond.fieldLink RX5 9 "IcePilots$Reader" "tokens" "[I", Cond.fieldLink RX5 15 "IcePilots$Reader" "places" "[I", Cond.fieldLink RX5 18 "IcePilots$Reader" "values" "[I", Cond.fieldLink RX5 21 "IcePilots$Reader" "size" "I", Cond.fieldLink RX5 25 "IcePilots$Reader" "at" "I", Cond.fieldLink RX5 28 "IcePilots$Reader" "steps" "[I", Cond.fieldLink RX5 31 "IcePilots$Reader" "ends" "[I", Cond.fieldLink RX5 34 "IcePilots$Reader" "acts" "[I", Cond.fieldLink RX5 37 "IcePilots$Reader" "numbers" "[I", Cond.fieldLink RX5 40 "IcePilots$Reader" "stepped" "I", Cond.fieldLink RX5 43 "IcePilots$Reader" "lines" "I", Cond.fieldLink RX5 46 "IcePilots$Reader" "fault" "I", Cond.fieldLink RX5 49 "IcePilots$Reader" "place" "I", Cond.code yX6_at cX6_at 2 (some .int), Cond.fieldLink RX6 15 "IcePilots$Tape" "length" "I", Cond.fieldLink RX6 9 "IcePilots$Tape" "bytes" "[I", Cond.code yX5_isLetter cX5_isLetter 1 (some .boolean), Cond.code yJ0_isLatin1_aae02 cJ0_isLatin1_aae02 1 (some .boolean), Cond.fieldLink RJ0 38 "java/lang/String" "COMPACT_STRINGS" "Z", Cond.fieldLink RJ0 15 "java/lang/String" "coder" "B", Cond.code yJ3_checkIndex_8e157 cJ3_checkIndex_8e157 3 (some .int), Cond.code yJ0_checkIndex_df160 cJ0_checkIndex_df160 2 none, Cond.fieldLink RJ0 1053 "jdk/internal/util/Preconditions" "SIOOBE_FORMATTER" "Ljava/util/function/BiFunction;"]
def gC7 : List Cond := [Cond.methodLink RJ0 1059 yJ3_checkIndex_8e157, Cond.static yJ3_checkIndex_8e157, Cond.initialized RJ3, Cond.code yJ1_charAt_3b067 cJ1_charAt_3b067 2 (some .char), Cond.methodLink RJ1 9 yJ0_checkIndex_df160, Cond.static yJ0_checkIndex_df160, Cond.initialized RJ0, Cond.code yJ2_length_9d52b cJ2_length_9d52b 1 (some .int), Cond.code yJ2_checkIndex_2214a cJ2_checkIndex_2214a 2 none, Cond.methodLink RJ2 48 yJ2_length_9d52b, Cond.static yJ2_length_9d52b, Cond.initialized RJ2, Cond.methodLink RJ2 414 yJ0_checkIndex_df160, Cond.code yJ2_getChar_3b067 cJ2_getChar_3b067 2 (some .char), Cond.fieldLink RJ2 44 "java/lang/StringUTF16" "$assertionsDisabled" "Z", Cond.fieldLink RJ2 59 "java/lang/StringUTF16" "HI_BYTE_SHIFT" "I", Cond.fieldLink RJ2 63 "java/lang/StringUTF16" "LO_BYTE_SHIFT" "I", Cond.code yJ2_charAt_3b067 cJ2_charAt_3b067 2 (some .char), Cond.methodLink RJ2 67 yJ2_checkIndex_2214a, Cond.static yJ2_checkIndex_2214a, Cond.methodLink RJ2 71 yJ2_getChar_3b067, Cond.static yJ2_getChar_3b067, Cond.fieldLink RJ0 9 "java/lang/String" "value" "[B", Cond.methodLink RJ0 492 yJ0_isLatin1_aae02, Cond.instanceMethod yJ0_isLatin1_aae02, Cond.selects RJ0 yJ0_isLatin1_aae02 yJ0_isLatin1_aae02, Cond.methodLink RJ0 495 yJ1_charAt_3b067, Cond.static yJ1_charAt_3b067, Cond.initialized RJ1, Cond.methodLink RJ0 498 yJ2_charAt_3b067, Cond.static yJ2_charAt_3b067, Cond.code yJ0_charAt_5068e cJ0_charAt_5068e 2 (some .char), Cond.methodLink RX9 15 yX6_at, Cond.instanceMethod yX6_at, Cond.selects RX6 yX6_at yX6_at, Cond.initialized RX6, Cond.methodLink RX9 23 yJ0_charAt_5068e, Cond.instanceMethod yJ0_charAt_5068e, Cond.selects RJ0 yJ0_charAt_5068e yJ0_charAt_5068e, Cond.code yX9_stands cX9_stands 6 (some .boolean)]
def gC8 : List Cond := [Cond.methodLink RX9 11 yX9_stands, Cond.static yX9_stands, Cond.initialized RX9, Cond.code yX9_find cX9_find 4 (some .int), Cond.code yX5_addToken cX5_addToken 4 none, Cond.fieldLink RX5 84 "IcePilots$Tape" "length" "I", Cond.methodLink RX5 89 yX6_at, Cond.methodLink RX5 92 yX5_isLetter, Cond.static yX5_isLetter, Cond.initialized RX5, Cond.methodLink RX5 113 yX9_find, Cond.static yX9_find, Cond.methodLink RX5 109 yX5_addToken, Cond.instanceMethod yX5_addToken, Cond.selects RX5 yX5_addToken yX5_addToken, Cond.code yX5_scanWord cX5_scanWord 5 (some .int), Cond.code yX5_isDigit cX5_isDigit 1 (some .boolean), Cond.code yX5_scanNumber cX5_scanNumber 5 (some .int), Cond.methodLink RX5 100 yX5_isDigit, Cond.static yX5_isDigit, Cond.code yX5_isComparison cX5_isComparison 1 (some .boolean), Cond.code yX5_isSign cX5_isSign 1 (some .boolean), Cond.methodLink RX5 119 yX5_isComparison, Cond.static yX5_isComparison, Cond.methodLink RX5 96 yX5_scanWord, Cond.instanceMethod yX5_scanWord, Cond.selects RX5 yX5_scanWord yX5_scanWord, Cond.methodLink RX5 103 yX5_scanNumber, Cond.instanceMethod yX5_scanNumber, Cond.selects RX5 yX5_scanNumber yX5_scanNumber, Cond.methodLink RX5 106 yX5_isSign, Cond.static yX5_isSign, Cond.code yX5_scan cX5_scan 5 none, Cond.code yX5_token cX5_token 1 (some .int), Cond.code yX5_placeHere cX5_placeHere 1 (some .int), Cond.code yX5_take cX5_take 2 (some .boolean), Cond.code yX5_addStep cX5_addStep 2 none, Cond.code yX9_isWhat cX9_isWhat 1 (some .boolean), Cond.code yX5_takeNumber cX5_takeNumber 1 (some .int), Cond.methodLink RX5 56 yX5_token]
def gC9 : List Cond := [Cond.instanceMethod yX5_token, Cond.selects RX5 yX5_token yX5_token, Cond.methodLink RX5 151 yX9_isWhat, Cond.static yX9_isWhat, Cond.methodLink RX5 131 yX5_takeNumber, Cond.instanceMethod yX5_takeNumber, Cond.selects RX5 yX5_takeNumber yX5_takeNumber, Cond.methodLink RX5 154 yX4_comparison, Cond.static yX4_comparison, Cond.methodLink RX5 141 yX5_addStep, Cond.instanceMethod yX5_addStep, Cond.selects RX5 yX5_addStep yX5_addStep, Cond.code yX5_readComparison cX5_readComparison 4 (some .boolean), Cond.methodLink RX5 145 yX5_readOne, Cond.instanceMethod yX5_readOne, Cond.selects RX5 yX5_readOne yX5_readOne, Cond.methodLink RX5 122 yX5_take, Cond.instanceMethod yX5_take, Cond.selects RX5 yX5_take yX5_take, Cond.code yX5_readOne cX5_readOne 4 (some .boolean), Cond.methodLink RX5 125 yX5_readTerm, Cond.instanceMethod yX5_readTerm, Cond.selects RX5 yX5_readTerm yX5_readTerm, Cond.methodLink RX5 148 yX5_readComparison, Cond.instanceMethod yX5_readComparison, Cond.selects RX5 yX5_readComparison yX5_readComparison, Cond.code yX5_readTerm cX5_readTerm 3 (some .boolean), Cond.methodLink RX5 138 yX5_readBoth, Cond.instanceMethod yX5_readBoth, Cond.selects RX5 yX5_readBoth yX5_readBoth, Cond.code yX5_readBoth cX5_readBoth 3 (some .boolean), Cond.code yX9_isAct cX9_isAct 1 (some .boolean), Cond.code yX5_keepLine cX5_keepLine 3 none, Cond.methodLink RX5 128 yX9_isAct, Cond.static yX9_isAct, Cond.methodLink RX5 134 yX5_keepLine, Cond.instanceMethod yX5_keepLine, Cond.selects RX5 yX5_keepLine yX5_keepLine, Cond.code yX5_readLine cX5_readLine 3 (some .boolean), Cond.methodLink RX5 52 yX5_scan]
def gC10 : List Cond := [Cond.instanceMethod yX5_scan, Cond.selects RX5 yX5_scan yX5_scan, Cond.methodLink RX5 60 yX5_placeHere, Cond.instanceMethod yX5_placeHere, Cond.selects RX5 yX5_placeHere yX5_placeHere, Cond.methodLink RX5 63 yX5_readLine, Cond.instanceMethod yX5_readLine, Cond.selects RX5 yX5_readLine yX5_readLine, Cond.code yX5_read cX5_read 4 none, Cond.code yJ7_copyOf_59c91 cJ7_copyOf_59c91 3 (some (.array .int)), Cond.methodLink RJ7 316 ⟨"[I", "clone", "()Ljava/lang/Object;"⟩, Cond.sameMethod "[I" "java/lang/Object" "clone" "()Ljava/lang/Object;", Cond.native ⟨"java/lang/Object", "clone", "()Ljava/lang/Object;"⟩, Cond.instanceMethod ⟨"java/lang/Object", "clone", "()Ljava/lang/Object;"⟩, Cond.selects "[I" ⟨"[I", "clone", "()Ljava/lang/Object;"⟩ ⟨"java/lang/Object", "clone", "()Ljava/lang/Object;"⟩, Cond.classLink RJ7 317 "[I", Cond.methodLink RJ7 304 Lib.Math.min.name, Cond.methodLink RJ7 150 arraycopyName, Cond.methodLink RX5 67 Lib.Math.min.name, Cond.classLink RX5 73 RX4, Cond.instantiable RX4 4, Cond.methodLink RX5 75 yJ7_copyOf_59c91, Cond.static yJ7_copyOf_59c91, Cond.methodLink RX5 81 yX4_init, Cond.instanceMethod yX4_init, Cond.code yX5_result cX5_result 2 (some (.object "IcePilots$Orders")), Cond.code yX6_init cX6_init 1 none, Cond.methodLink RX6 3 objectInit, Cond.code yX6_append cX6_append 3 none, Cond.code yX6_copy cX6_copy 2 none, Cond.methodLink RX6 19 arraycopyName, Cond.code yX7_init cX7_init 1 none, Cond.methodLink RX7 3 objectInit, Cond.code yX7_copy cX7_copy 2 none, Cond.methodLink RX7 27 arraycopyName, Cond.methodLink RX8 3 objectInit, Cond.classLink RX8 9 RX2, Cond.instantiable RX2 4, Cond.classLink RX8 11 RX7, Cond.instantiable RX7 3]
def gC11 : List Cond := [Cond.fieldLink RX8 17 "IcePilots$Whole" "gulf" "LIcePilots$Gulf;", Cond.classLink RX8 23 RX6, Cond.instantiable RX6 2, Cond.fieldLink RX8 26 "IcePilots$Whole" "tape" "LIcePilots$Tape;", Cond.classLink RX8 30 RX0, Cond.instantiable RX0 7, Cond.fieldLink RX8 33 "IcePilots$Whole" "convoy" "LIcePilots$Convoy;", Cond.fieldLink RX8 37 "IcePilots$Whole" "fault" "I", Cond.fieldLink RX8 41 "IcePilots$Whole" "place" "I", Cond.instanceMethod yX7_init, Cond.methodLink RX8 14 yX2_init, Cond.instanceMethod yX2_init, Cond.instanceMethod yX6_init, Cond.instanceMethod yX0_init, Cond.code yX8_init cX8_init 1 none, Cond.fieldLink RX8 48 "IcePilots$Gulf" "weather" "LIcePilots$Weather;", Cond.methodLink RX8 44 yX2_copyAllButWeather, Cond.instanceMethod yX2_copyAllButWeather, Cond.selects RX2 yX2_copyAllButWeather yX2_copyAllButWeather, Cond.methodLink RX8 52 yX7_copy, Cond.instanceMethod yX7_copy, Cond.selects RX7 yX7_copy yX7_copy, Cond.methodLink RX8 55 yX6_copy, Cond.instanceMethod yX6_copy, Cond.selects RX6 yX6_copy yX6_copy, Cond.methodLink RX8 58 yX0_copy, Cond.instanceMethod yX0_copy, Cond.selects RX0 yX0_copy yX0_copy, Cond.code yX8_copy cX8_copy 2 none, Cond.methodLink RX10 1 objectInit, Cond.classLink RX10 7 RX8, Cond.instantiable RX8 5, Cond.initialized RX8, Cond.fieldLink RX10 10 "IcePilots" "now" "LIcePilots$Whole;", Cond.fieldLink RX10 16 "IcePilots" "images" "[LIcePilots$Whole;", Cond.classLink RX10 20 RX2, Cond.fieldLink RX10 22 "IcePilots$Whole" "gulf" "LIcePilots$Gulf;", Cond.fieldLink RX10 26 "IcePilots$Gulf" "weather" "LIcePilots$Weather;", Cond.fieldLink RX10 33 "IcePilots" "foretold" "LIcePilots$Gulf;", Cond.classLink RX10 36 RX5]
def gC12 : List Cond := [Cond.instantiable RX5 13, Cond.fieldLink RX10 39 "IcePilots" "reader" "LIcePilots$Reader;", Cond.instanceMethod yX8_init, Cond.methodLink RX10 30 yX2_init, Cond.instanceMethod yX5_init, Cond.methodLink RX10 43 yX2_begin, Cond.instanceMethod yX2_begin, Cond.selects RX2 yX2_begin yX2_begin, Cond.code yX10_init cX10_init 1 none, Cond.code yX10_within cX10_within 3 (some .boolean), Cond.methodLink RX10 47 yX10_within, Cond.static yX10_within, Cond.initialized RX10, Cond.code yX10_gulf cX10_gulf 3 (some .boolean), Cond.fieldLink RX10 51 "IcePilots$Gulf" "ice" "LIcePilots$Ice;", Cond.fieldLink RX10 61 "IcePilots$Ice" "sea" "[Z", Cond.fieldLink RX10 65 "IcePilots$Gulf" "fleet" "LIcePilots$Fleet;", Cond.fieldLink RX10 75 "IcePilots$Ice" "laid" "I", Cond.fieldLink RX10 79 "IcePilots$Ice" "level" "[I", Cond.fieldLink RX10 83 "IcePilots$Ice" "ridged" "[I", Cond.methodLink RX10 55 yX3_find, Cond.methodLink RX10 69 yX1_shipIn, Cond.methodLink RX10 86 yX3_empty, Cond.code yX10_land cX10_land 6 (some .boolean), Cond.code yX10_ice cX10_ice 8 (some .boolean), Cond.fieldLink RX10 94 "IcePilots$Ice" "fast" "[Z", Cond.methodLink RX10 90 yX3_lay, Cond.instanceMethod yX3_lay, Cond.selects RX3 yX3_lay yX3_lay, Cond.code yX10_weather cX10_weather 6 (some .boolean), Cond.fieldLink RX10 97 "IcePilots$Gulf" "hour" "I", Cond.methodLink RX10 100 yX7_put, Cond.methodLink RX10 106 yX1_join, Cond.instanceMethod yX1_join, Cond.selects RX1 yX1_join yX1_join, Cond.code yX10_ship cX10_ship 7 (some .int), Cond.code yX10_feed cX10_feed 7 (some .int), Cond.fieldLink RX10 110 "IcePilots$Whole" "tape" "LIcePilots$Tape;", Cond.fieldLink RX10 114 "IcePilots$Tape" "length" "I", Cond.methodLink RX10 119 yX6_append]
def gC13 : List Cond := [Cond.instanceMethod yX6_append, Cond.selects RX6 yX6_append yX6_append, Cond.code yX10_end cX10_end 2 (some .int), Cond.fieldLink RX10 131 "IcePilots$Reader" "fault" "I", Cond.fieldLink RX10 134 "IcePilots$Whole" "fault" "I", Cond.fieldLink RX10 135 "IcePilots$Reader" "place" "I", Cond.fieldLink RX10 138 "IcePilots$Whole" "place" "I", Cond.fieldLink RX10 139 "IcePilots$Fleet" "orders" "[LIcePilots$Orders;", Cond.fieldLink RX10 147 "IcePilots$Reader" "lines" "I", Cond.methodLink RX10 123 yX1_has, Cond.instanceMethod yX1_has, Cond.selects RX1 yX1_has yX1_has, Cond.methodLink RX10 127 yX5_read, Cond.instanceMethod yX5_read, Cond.selects RX5 yX5_read yX5_read, Cond.methodLink RX10 143 yX5_result, Cond.instanceMethod yX5_result, Cond.selects RX5 yX5_result yX5_result, Cond.code yX10_orders cX10_orders 2 (some .int), Cond.code yX10_fault cX10_fault 2 (some .int), Cond.code yX10_call cX10_call 3 (some .boolean), Cond.fieldLink RX10 150 "IcePilots$Fleet" "told" "[I", Cond.code yX10_canPass cX10_canPass 2 (some .boolean), Cond.methodLink RX10 153 yX10_canPass, Cond.instanceMethod yX10_canPass, Cond.selects RX10 yX10_canPass yX10_canPass, Cond.methodLink RX10 156 yX2_passHour, Cond.instanceMethod yX2_passHour, Cond.selects RX2 yX2_passHour yX2_passHour, Cond.code yX10_hours cX10_hours 3 (some .int), Cond.code yX10_foretoldOfShip cX10_foretoldOfShip 4 (some .int), Cond.fieldLink RX10 185 "IcePilots$Fleet" "place" "[I", Cond.fieldLink RX10 182 "IcePilots$Fleet" "fuel" "[I", Cond.fieldLink RX10 190 "IcePilots$Fleet" "moved" "[I", Cond.methodLink RX10 159 yX2_copyAllButWeather, Cond.methodLink RX10 163 yX10_foretoldOfShip, Cond.instanceMethod yX10_foretoldOfShip, Cond.selects RX10 yX10_foretoldOfShip yX10_foretoldOfShip, Cond.methodLink RX10 166 yX3_allLevel, Cond.instanceMethod yX3_allLevel]
def gC14 : List Cond := [Cond.selects RX3 yX3_allLevel yX3_allLevel, Cond.methodLink RX10 170 yX3_allRidged, Cond.instanceMethod yX3_allRidged, Cond.selects RX3 yX3_allRidged yX3_allRidged, Cond.code yX10_ahead cX10_ahead 6 (some .int), Cond.fieldLink RX10 173 "IcePilots$Ice" "channel" "[I", Cond.methodLink RX10 176 yX3_burden, Cond.code yX10_cell cX10_cell 6 (some .int), Cond.fieldLink RX10 179 "IcePilots$Fleet" "strength" "[I", Cond.fieldLink RX10 193 "IcePilots$Fleet" "line" "[I", Cond.fieldLink RX10 196 "IcePilots$Fleet" "done" "[Z", Cond.methodLink RX10 187 yX2_held, Cond.methodLink RX10 199 yX1_linesOf, Cond.instanceMethod yX1_linesOf, Cond.selects RX1 yX1_linesOf yX1_linesOf, Cond.code yX10_tell cX10_tell 4 (some .int), Cond.fieldLink RX10 202 "IcePilots$Ice" "rows" "I", Cond.fieldLink RX10 205 "IcePilots$Ice" "columns" "I", Cond.fieldLink RX10 208 "IcePilots$Fleet" "size" "I", Cond.fieldLink RX10 211 "IcePilots$Ice" "grown" "I", Cond.fieldLink RX10 214 "IcePilots$Ice" "melted" "I", Cond.fieldLink RX10 217 "IcePilots$Whole" "convoy" "LIcePilots$Convoy;", Cond.fieldLink RX10 221 "IcePilots$Convoy" "size" "I", Cond.code yX10_count cX10_count 3 (some .int), Cond.code yX10_passage cX10_passage 4 (some .int), Cond.methodLink RX10 224 yX0_join, Cond.instanceMethod yX0_join, Cond.selects RX0 yX0_join yX0_join, Cond.code yX10_clear cX10_clear 1 none, Cond.methodLink RX10 225 yX0_settle, Cond.instanceMethod yX0_settle, Cond.selects RX0 yX0_settle yX0_settle, Cond.code yX10_turns cX10_turns 2 (some .int), Cond.code yX10_turn cX10_turn 2 (some .int), Cond.fieldLink RX10 228 "IcePilots$Convoy" "settledSize" "I", Cond.fieldLink RX10 231 "IcePilots$Convoy" "settled" "[I", Cond.code yX10_cost cX10_cost 3 (some .int), Cond.methodLink RX10 234 yX0_tryDigits, Cond.instanceMethod yX0_tryDigits, Cond.selects RX0 yX0_tryDigits yX0_tryDigits]
def gC15 : List Cond := [Cond.methodLink RX10 237 yX0_waiting, Cond.methodLink RX10 240 yX8_copy, Cond.instanceMethod yX8_copy, Cond.selects RX8 yX8_copy yX8_copy, Cond.code yX10_image cX10_image 2 (some .boolean), Cond.code yX10_again cX10_again 2 (some .boolean), Cond.code yX11_begins cX11_begins 5 none, Cond.fieldLink RX11 8 "IcePilotsModel" "all" "[I", Cond.code yX11_init cX11_init 1 none, Cond.methodLink RX11 1 objectInit, Cond.constant RX11 7 (53700), Cond.fieldLink RX11 14 "IcePilotsModel" "has" "[Z", Cond.fieldLink RX11 18 "IcePilotsModel" "line" "[I", Cond.fieldLink RX11 21 "IcePilotsModel" "act" "[I", Cond.fieldLink RX11 24 "IcePilotsModel" "pile" "[Z", Cond.fieldLink RX11 27 "IcePilotsModel" "comes" "[I", Cond.fieldLink RX11 30 "IcePilotsModel" "leaves" "[I", Cond.fieldLink RX11 33 "IcePilotsModel" "tried" "[I", Cond.fieldLink RX11 36 "IcePilotsModel" "met" "[Z", Cond.methodLink RX11 39 yX11_begins, Cond.instanceMethod yX11_begins, Cond.selects RX11 yX11_begins yX11_begins, Cond.initialized RX11, Cond.code yX11_isIn cX11_isIn 3 (some .boolean), Cond.code yX11_gulf cX11_gulf 3 (some .boolean), Cond.methodLink RX11 43 yX11_isIn, Cond.static yX11_isIn, Cond.code yX11_isCell cX11_isCell 3 (some .boolean), Cond.code yX11_of cX11_of 4 (some .int), Cond.code yX11_sets cX11_sets 5 none, Cond.code yX11_isSea cX11_isSea 3 (some .boolean), Cond.methodLink RX11 47 yX11_isCell, Cond.instanceMethod yX11_isCell, Cond.selects RX11 yX11_isCell yX11_isCell, Cond.methodLink RX11 51 yX11_of, Cond.instanceMethod yX11_of, Cond.selects RX11 yX11_of yX11_of, Cond.code yX11_its cX11_its 3 (some .int), Cond.code yX11_ships cX11_ships 4 none, Cond.code yX11_shipAt cX11_shipAt 4 (some .int)]
def gC16 : List Cond := [Cond.methodLink RX11 55 yX11_its, Cond.instanceMethod yX11_its, Cond.selects RX11 yX11_its yX11_its, Cond.methodLink RX11 59 yX11_shipAt, Cond.instanceMethod yX11_shipAt, Cond.selects RX11 yX11_shipAt yX11_shipAt, Cond.methodLink RX11 62 yX11_sets, Cond.instanceMethod yX11_sets, Cond.selects RX11 yX11_sets yX11_sets, Cond.code yX11_land cX11_land 5 (some .boolean), Cond.code yX11_ice cX11_ice 6 (some .boolean), Cond.methodLink RX11 66 yX11_isSea, Cond.instanceMethod yX11_isSea, Cond.selects RX11 yX11_isSea yX11_isSea, Cond.code yX11_weather cX11_weather 7 (some .boolean), Cond.methodLink RX11 69 yX11_ships, Cond.instanceMethod yX11_ships, Cond.selects RX11 yX11_ships yX11_ships, Cond.code yX11_ship cX11_ship 7 (some .int), Cond.code yX11_isShip cX11_isShip 2 (some .boolean), Cond.code yX11_feed cX11_feed 8 (some .int), Cond.code yX11_end cX11_end 2 (some .int), Cond.code yX11_byteAt cX11_byteAt 2 (some .int), Cond.fieldLink RX11 73 "IcePilotsModel" "size" "I", Cond.code yX11_isLetter cX11_isLetter 1 (some .boolean), Cond.code yX11_isDigit cX11_isDigit 1 (some .boolean), Cond.code yX11_two cX11_two 2 (some .long), Cond.constantLong RX11 77 (32), Cond.constantLong RX11 79 (96), Cond.code yX11_four cX11_four 4 (some .long), Cond.constantLong RX11 85 (1024), Cond.methodLink RX11 81 yX11_two, Cond.static yX11_two, Cond.code yX11_wordOf cX11_wordOf 2 (some .int), Cond.constantLong RX11 91 (108), Cond.constantLong RX11 93 (101), Cond.constantLong RX11 95 (119), Cond.constantLong RX11 97 (104), Cond.constantLong RX11 99 (116), Cond.constantLong RX11 101 (100)]
def gC17 : List Cond := [Cond.methodLink RX11 87 yX11_four, Cond.static yX11_four, Cond.code yX11_isSignByte cX11_isSignByte 1 (some .boolean), Cond.fieldLink RX11 103 "IcePilotsModel" "next" "I", Cond.fieldLink RX11 110 "IcePilotsModel" "where" "I", Cond.fieldLink RX11 113 "IcePilotsModel" "token" "I", Cond.fieldLink RX11 124 "IcePilotsModel" "word" "I", Cond.fieldLink RX11 130 "IcePilotsModel" "number" "I", Cond.fieldLink RX11 133 "IcePilotsModel" "sign" "I", Cond.methodLink RX11 106 yX11_byteAt, Cond.instanceMethod yX11_byteAt, Cond.selects RX11 yX11_byteAt yX11_byteAt, Cond.methodLink RX11 116 yX11_isLetter, Cond.static yX11_isLetter, Cond.methodLink RX11 120 yX11_wordOf, Cond.static yX11_wordOf, Cond.methodLink RX11 127 yX11_isDigit, Cond.static yX11_isDigit, Cond.methodLink RX11 136 yX11_isSignByte, Cond.static yX11_isSignByte, Cond.code yX11_advance cX11_advance 4 none, Cond.code yX11_stops cX11_stops 1 none, Cond.fieldLink RX11 139 "IcePilotsModel" "wrong" "Z", Cond.code yX11_isWord cX11_isWord 2 (some .boolean), Cond.code yX11_isSign cX11_isSign 2 (some .boolean), Cond.methodLink RX11 143 yX11_isWord, Cond.instanceMethod yX11_isWord, Cond.selects RX11 yX11_isWord yX11_isWord, Cond.methodLink RX11 146 yX11_advance, Cond.instanceMethod yX11_advance, Cond.selects RX11 yX11_advance yX11_advance, Cond.code yX11_takesWord cX11_takesWord 2 (some .boolean), Cond.methodLink RX11 149 yX11_isSign, Cond.instanceMethod yX11_isSign, Cond.selects RX11 yX11_isSign yX11_isSign, Cond.methodLink RX11 152 yX11_stops, Cond.instanceMethod yX11_stops, Cond.selects RX11 yX11_stops yX11_stops, Cond.code yX11_must cX11_must 2 none, Cond.code yX11_numbered cX11_numbered 2 (some .int)]
def gC18 : List Cond := [Cond.code yX11_emit cX11_emit 4 none, Cond.fieldLink RX11 155 "IcePilotsModel" "acts" "I", Cond.methodLink RX11 170 yX11_notOf, Cond.instanceMethod yX11_notOf, Cond.selects RX11 yX11_notOf yX11_notOf, Cond.methodLink RX11 164 yX11_takesWord, Cond.instanceMethod yX11_takesWord, Cond.selects RX11 yX11_takesWord yX11_takesWord, Cond.methodLink RX11 167 yX11_emit, Cond.instanceMethod yX11_emit, Cond.selects RX11 yX11_emit yX11_emit, Cond.code yX11_anyOf cX11_anyOf 1 none, Cond.fieldLink RX11 158 "IcePilotsModel" "open" "I", Cond.methodLink RX11 161 yX11_allOf, Cond.instanceMethod yX11_allOf, Cond.selects RX11 yX11_allOf yX11_allOf, Cond.code yX11_atom cX11_atom 3 none, Cond.methodLink RX11 176 yX11_anyOf, Cond.instanceMethod yX11_anyOf, Cond.selects RX11 yX11_anyOf yX11_anyOf, Cond.methodLink RX11 179 yX11_must, Cond.instanceMethod yX11_must, Cond.selects RX11 yX11_must yX11_must, Cond.methodLink RX11 183 yX11_numbered, Cond.instanceMethod yX11_numbered, Cond.selects RX11 yX11_numbered yX11_numbered, Cond.code yX11_notOf cX11_notOf 2 none, Cond.methodLink RX11 173 yX11_atom, Cond.instanceMethod yX11_atom, Cond.selects RX11 yX11_atom yX11_atom, Cond.code yX11_allOf cX11_allOf 1 none, Cond.fieldLink RX11 187 "IcePilotsModel" "lines" "I", Cond.code yX11_aLine cX11_aLine 6 none, Cond.methodLink RX11 190 yX11_isShip, Cond.instanceMethod yX11_isShip, Cond.selects RX11 yX11_isShip yX11_isShip, Cond.methodLink RX11 193 yX11_aLine, Cond.instanceMethod yX11_aLine, Cond.selects RX11 yX11_aLine yX11_aLine, Cond.code yX11_orders cX11_orders 3 (some .int)]
def gC19 : List Cond := [Cond.code yX11_fault cX11_fault 2 (some .int), Cond.code yX11_call cX11_call 3 (some .boolean), Cond.code yX11_rowTo cX11_rowTo 1 (some .int), Cond.code yX11_columnTo cX11_columnTo 1 (some .int), Cond.code yX11_burden cX11_burden 3 (some .int), Cond.code yX11_beside cX11_beside 3 (some .int), Cond.methodLink RX11 196 yX11_rowTo, Cond.static yX11_rowTo, Cond.methodLink RX11 199 yX11_columnTo, Cond.static yX11_columnTo, Cond.methodLink RX11 202 yX11_burden, Cond.instanceMethod yX11_burden, Cond.selects RX11 yX11_burden yX11_burden, Cond.methodLink RX11 205 yX11_beside, Cond.instanceMethod yX11_beside, Cond.selects RX11 yX11_beside yX11_beside, Cond.code yX11_isHeld cX11_isHeld 5 (some .boolean), Cond.code yX11_there cX11_there 5 (some .int), Cond.methodLink RX11 208 yX11_isHeld, Cond.instanceMethod yX11_isHeld, Cond.selects RX11 yX11_isHeld yX11_isHeld, Cond.methodLink RX11 211 yX11_there, Cond.instanceMethod yX11_there, Cond.selects RX11 yX11_there yX11_there, Cond.code yX11_asked cX11_asked 5 (some .int), Cond.methodLink RX11 214 yX11_asked, Cond.instanceMethod yX11_asked, Cond.selects RX11 yX11_asked yX11_asked, Cond.code yX11_holds cX11_holds 10 (some .boolean), Cond.code yX11_goes cX11_goes 5 (some .boolean), Cond.code yX11_cuts cX11_cuts 4 (some .boolean), Cond.methodLink RX11 217 yX11_cuts, Cond.instanceMethod yX11_cuts, Cond.selects RX11 yX11_cuts yX11_cuts, Cond.methodLink RX11 220 yX11_goes, Cond.instanceMethod yX11_goes, Cond.selects RX11 yX11_goes yX11_goes, Cond.code yX11_does cX11_does 5 (some .boolean), Cond.methodLink RX11 223 yX11_holds, Cond.instanceMethod yX11_holds]
def gC20 : List Cond := [Cond.selects RX11 yX11_holds yX11_holds, Cond.methodLink RX11 226 yX11_does, Cond.instanceMethod yX11_does, Cond.selects RX11 yX11_does yX11_does, Cond.code yX11_obeys cX11_obeys 3 none, Cond.code yX11_freezes cX11_freezes 7 none, Cond.code yX11_drifts cX11_drifts 6 none, Cond.methodLink RX11 229 yX11_obeys, Cond.instanceMethod yX11_obeys, Cond.selects RX11 yX11_obeys yX11_obeys, Cond.methodLink RX11 232 yX11_freezes, Cond.instanceMethod yX11_freezes, Cond.selects RX11 yX11_freezes yX11_freezes, Cond.methodLink RX11 235 yX11_drifts, Cond.instanceMethod yX11_drifts, Cond.selects RX11 yX11_drifts yX11_drifts, Cond.code yX11_anHour cX11_anHour 6 none, Cond.code yX11_mayGo cX11_mayGo 2 (some .boolean), Cond.methodLink RX11 238 yX11_mayGo, Cond.instanceMethod yX11_mayGo, Cond.selects RX11 yX11_mayGo yX11_mayGo, Cond.methodLink RX11 241 yX11_anHour, Cond.instanceMethod yX11_anHour, Cond.selects RX11 yX11_anHour yX11_anHour, Cond.code yX11_hours cX11_hours 3 (some .int), Cond.code yX11_iceOf cX11_iceOf 5 (some .int), Cond.code yX11_copies cX11_copies 4 none, Cond.methodLink RX11 244 yX11_copies, Cond.instanceMethod yX11_copies, Cond.selects RX11 yX11_copies yX11_copies, Cond.methodLink RX11 247 yX11_iceOf, Cond.instanceMethod yX11_iceOf, Cond.selects RX11 yX11_iceOf yX11_iceOf, Cond.code yX11_ahead cX11_ahead 5 (some .int), Cond.code yX11_cell cX11_cell 4 (some .int), Cond.code yX11_tell cX11_tell 3 (some .int), Cond.code yX11_count cX11_count 2 (some .int), Cond.code yX11_passage cX11_passage 5 (some .int), Cond.code yX11_clear cX11_clear 1 none, Cond.code yX11_isOrder cX11_isOrder 3 (some .boolean)]
def gC21 : List Cond := [Cond.code yX11_costs cX11_costs 10 (some .int), Cond.code yX11_turns cX11_turns 9 (some .int), Cond.methodLink RX11 250 yX11_isOrder, Cond.instanceMethod yX11_isOrder, Cond.selects RX11 yX11_isOrder yX11_isOrder, Cond.methodLink RX11 254 yX11_costs, Cond.instanceMethod yX11_costs, Cond.selects RX11 yX11_costs yX11_costs, Cond.code yX11_turn cX11_turn 2 (some .int), Cond.code yX11_cost cX11_cost 4 (some .int), Cond.code yX11_image cX11_image 2 (some .boolean), Cond.code yX11_again cX11_again 2 (some .boolean), Cond.code yJ9_max_7cf53 cJ9_max_7cf53 2 (some .int), Cond.code yJ9_min_7cf53 cJ9_min_7cf53 2 (some .int), Cond.classLink RL 7 RX10, Cond.instantiable RX10 4, Cond.classLink RL 10 RX11, Cond.instantiable RX11 20, Cond.methodLink RL 9 yX10_init, Cond.instanceMethod yX10_init, Cond.methodLink RL 12 yX11_init, Cond.instanceMethod yX11_init, Cond.methodLink RL 13 yX10_gulf, Cond.instanceMethod yX10_gulf, Cond.selects RX10 yX10_gulf yX10_gulf, Cond.methodLink RL 17 yX11_gulf, Cond.instanceMethod yX11_gulf, Cond.selects RX11 yX11_gulf yX11_gulf, Cond.methodLink RL 18 yX10_land, Cond.instanceMethod yX10_land, Cond.selects RX10 yX10_land yX10_land, Cond.methodLink RL 22 yX11_land, Cond.instanceMethod yX11_land, Cond.selects RX11 yX11_land yX11_land, Cond.methodLink RL 23 yX10_ice, Cond.instanceMethod yX10_ice, Cond.selects RX10 yX10_ice yX10_ice, Cond.methodLink RL 27 yX11_ice, Cond.instanceMethod yX11_ice, Cond.selects RX11 yX11_ice yX11_ice]
def gC22 : List Cond := [Cond.methodLink RL 28 yX10_weather, Cond.instanceMethod yX10_weather, Cond.selects RX10 yX10_weather yX10_weather, Cond.methodLink RL 32 yX11_weather, Cond.instanceMethod yX11_weather, Cond.selects RX11 yX11_weather yX11_weather, Cond.methodLink RL 33 yX10_ship, Cond.instanceMethod yX10_ship, Cond.selects RX10 yX10_ship yX10_ship, Cond.methodLink RL 37 yX11_ship, Cond.instanceMethod yX11_ship, Cond.selects RX11 yX11_ship yX11_ship, Cond.methodLink RL 38 yX10_feed, Cond.instanceMethod yX10_feed, Cond.selects RX10 yX10_feed yX10_feed, Cond.methodLink RL 42 yX11_feed, Cond.instanceMethod yX11_feed, Cond.selects RX11 yX11_feed yX11_feed, Cond.methodLink RL 43 yX10_end, Cond.instanceMethod yX10_end, Cond.selects RX10 yX10_end yX10_end, Cond.methodLink RL 47 yX11_end, Cond.instanceMethod yX11_end, Cond.selects RX11 yX11_end yX11_end, Cond.methodLink RL 48 yX10_orders, Cond.instanceMethod yX10_orders, Cond.selects RX10 yX10_orders yX10_orders, Cond.methodLink RL 51 yX11_orders, Cond.instanceMethod yX11_orders, Cond.selects RX11 yX11_orders yX11_orders, Cond.methodLink RL 52 yX10_fault, Cond.instanceMethod yX10_fault, Cond.selects RX10 yX10_fault yX10_fault, Cond.methodLink RL 55 yX11_fault, Cond.instanceMethod yX11_fault, Cond.selects RX11 yX11_fault yX11_fault, Cond.methodLink RL 56 yX10_call, Cond.instanceMethod yX10_call, Cond.selects RX10 yX10_call yX10_call, Cond.methodLink RL 59 yX11_call]
def gC23 : List Cond := [Cond.instanceMethod yX11_call, Cond.selects RX11 yX11_call yX11_call, Cond.methodLink RL 60 yX10_hours, Cond.instanceMethod yX10_hours, Cond.selects RX10 yX10_hours yX10_hours, Cond.methodLink RL 63 yX11_hours, Cond.instanceMethod yX11_hours, Cond.selects RX11 yX11_hours yX11_hours, Cond.methodLink RL 64 yX10_ahead, Cond.instanceMethod yX10_ahead, Cond.selects RX10 yX10_ahead yX10_ahead, Cond.methodLink RL 68 yX11_ahead, Cond.instanceMethod yX11_ahead, Cond.selects RX11 yX11_ahead yX11_ahead, Cond.methodLink RL 69 yX10_cell, Cond.instanceMethod yX10_cell, Cond.selects RX10 yX10_cell yX10_cell, Cond.methodLink RL 72 yX11_cell, Cond.instanceMethod yX11_cell, Cond.selects RX11 yX11_cell yX11_cell, Cond.methodLink RL 73 yX10_tell, Cond.instanceMethod yX10_tell, Cond.selects RX10 yX10_tell yX10_tell, Cond.methodLink RL 77 yX11_tell, Cond.instanceMethod yX11_tell, Cond.selects RX11 yX11_tell yX11_tell, Cond.methodLink RL 78 yX10_count, Cond.instanceMethod yX10_count, Cond.selects RX10 yX10_count yX10_count, Cond.methodLink RL 81 yX11_count, Cond.instanceMethod yX11_count, Cond.selects RX11 yX11_count yX11_count, Cond.methodLink RL 82 yX10_passage, Cond.instanceMethod yX10_passage, Cond.selects RX10 yX10_passage yX10_passage, Cond.methodLink RL 85 yX11_passage, Cond.instanceMethod yX11_passage, Cond.selects RX11 yX11_passage yX11_passage, Cond.methodLink RL 86 yX10_clear, Cond.instanceMethod yX10_clear]
def gC24 : List Cond := [Cond.selects RX10 yX10_clear yX10_clear, Cond.methodLink RL 89 yX11_clear, Cond.instanceMethod yX11_clear, Cond.selects RX11 yX11_clear yX11_clear, Cond.methodLink RL 90 yX10_turns, Cond.instanceMethod yX10_turns, Cond.selects RX10 yX10_turns yX10_turns, Cond.methodLink RL 93 yX11_turns, Cond.instanceMethod yX11_turns, Cond.selects RX11 yX11_turns yX11_turns, Cond.methodLink RL 94 yX10_turn, Cond.instanceMethod yX10_turn, Cond.selects RX10 yX10_turn yX10_turn, Cond.methodLink RL 97 yX11_turn, Cond.instanceMethod yX11_turn, Cond.selects RX11 yX11_turn yX11_turn, Cond.methodLink RL 98 yX10_cost, Cond.instanceMethod yX10_cost, Cond.selects RX10 yX10_cost yX10_cost, Cond.methodLink RL 101 yX11_cost, Cond.instanceMethod yX11_cost, Cond.selects RX11 yX11_cost yX11_cost, Cond.methodLink RL 102 yX10_image, Cond.instanceMethod yX10_image, Cond.selects RX10 yX10_image yX10_image, Cond.methodLink RL 106 yX11_image, Cond.instanceMethod yX11_image, Cond.selects RX11 yX11_image yX11_image, Cond.methodLink RL 107 yX10_again, Cond.instanceMethod yX10_again, Cond.selects RX10 yX10_again yX10_again, Cond.methodLink RL 110 yX11_again, Cond.instanceMethod yX11_again, Cond.selects RX11 yX11_again yX11_again]
def gU : List Cond := wsX00 ++ (wsX10 ++ (wsX20 ++ (wsX30 ++ (wsX40 ++ (wsX50 ++ (wsX60 ++ (wsX70 ++ (wsX80 ++ (wsX100 ++ (wsX110))))))))))
def gT24 : List Cond := gC24 ++ gU
def gT23 : List Cond := gC23 ++ gT24
def gT22 : List Cond := gC22 ++ gT23
def gT21 : List Cond := gC21 ++ gT22
def gT20 : List Cond := gC20 ++ gT21
def gT19 : List Cond := gC19 ++ gT20
def gT18 : List Cond := gC18 ++ gT19
def gT17 : List Cond := gC17 ++ gT18
def gT16 : List Cond := gC16 ++ gT17
def gT15 : List Cond := gC15 ++ gT16
def gT14 : List Cond := gC14 ++ gT15
def gT13 : List Cond := gC13 ++ gT14
def gT12 : List Cond := gC12 ++ gT13
def gT11 : List Cond := gC11 ++ gT12
def gT10 : List Cond := gC10 ++ gT11
def gT9 : List Cond := gC9 ++ gT10
def gT8 : List Cond := gC8 ++ gT9
def gT7 : List Cond := gC7 ++ gT8
def gT6 : List Cond := gC6 ++ gT7
def gT5 : List Cond := gC5 ++ gT6
def gT4 : List Cond := gC4 ++ gT5
def gT3 : List Cond := gC3 ++ gT4
def gT2 : List Cond := gC2 ++ gT3
def gT1 : List Cond := gC1 ++ gT2
def gT0 : List Cond := gC0 ++ gT1
def GW : List Cond := gT0
theorem gt_0 : ∀ w ∈ gT0, w ∈ GW := fun _ h => h
theorem gt_1 : ∀ w ∈ gT1, w ∈ GW := fun w h => gt_0 w (List.mem_append_right _ h)
theorem gt_2 : ∀ w ∈ gT2, w ∈ GW := fun w h => gt_1 w (List.mem_append_right _ h)
theorem gt_3 : ∀ w ∈ gT3, w ∈ GW := fun w h => gt_2 w (List.mem_append_right _ h)
theorem gt_4 : ∀ w ∈ gT4, w ∈ GW := fun w h => gt_3 w (List.mem_append_right _ h)
theorem gt_5 : ∀ w ∈ gT5, w ∈ GW := fun w h => gt_4 w (List.mem_append_right _ h)
theorem gt_6 : ∀ w ∈ gT6, w ∈ GW := fun w h => gt_5 w (List.mem_append_right _ h)
theorem gt_7 : ∀ w ∈ gT7, w ∈ GW := fun w h => gt_6 w (List.mem_append_right _ h)
theorem gt_8 : ∀ w ∈ gT8, w ∈ GW := fun w h => gt_7 w (List.mem_append_right _ h)
theorem gt_9 : ∀ w ∈ gT9, w ∈ GW := fun w h => gt_8 w (List.mem_append_right _ h)
theorem gt_10 : ∀ w ∈ gT10, w ∈ GW := fun w h => gt_9 w (List.mem_append_right _ h)
theorem gt_11 : ∀ w ∈ gT11, w ∈ GW := fun w h => gt_10 w (List.mem_append_right _ h)
theorem gt_12 : ∀ w ∈ gT12, w ∈ GW := fun w h => gt_11 w (List.mem_append_right _ h)
theorem gt_13 : ∀ w ∈ gT13, w ∈ GW := fun w h => gt_12 w (List.mem_append_right _ h)
theorem gt_14 : ∀ w ∈ gT14, w ∈ GW := fun w h => gt_13 w (List.mem_append_right _ h)
theorem gt_15 : ∀ w ∈ gT15, w ∈ GW := fun w h => gt_14 w (List.mem_append_right _ h)
theorem gt_16 : ∀ w ∈ gT16, w ∈ GW := fun w h => gt_15 w (List.mem_append_right _ h)
theorem gt_17 : ∀ w ∈ gT17, w ∈ GW := fun w h => gt_16 w (List.mem_append_right _ h)
theorem gt_18 : ∀ w ∈ gT18, w ∈ GW := fun w h => gt_17 w (List.mem_append_right _ h)
theorem gt_19 : ∀ w ∈ gT19, w ∈ GW := fun w h => gt_18 w (List.mem_append_right _ h)
theorem gt_20 : ∀ w ∈ gT20, w ∈ GW := fun w h => gt_19 w (List.mem_append_right _ h)
theorem gt_21 : ∀ w ∈ gT21, w ∈ GW := fun w h => gt_20 w (List.mem_append_right _ h)
theorem gt_22 : ∀ w ∈ gT22, w ∈ GW := fun w h => gt_21 w (List.mem_append_right _ h)
theorem gt_23 : ∀ w ∈ gT23, w ∈ GW := fun w h => gt_22 w (List.mem_append_right _ h)
theorem gt_24 : ∀ w ∈ gT24, w ∈ GW := fun w h => gt_23 w (List.mem_append_right _ h)
theorem gc_0 : ∀ w ∈ gC0, w ∈ GW := fun w h => gt_0 w (List.mem_append_left _ h)
theorem gc_1 : ∀ w ∈ gC1, w ∈ GW := fun w h => gt_1 w (List.mem_append_left _ h)
theorem gc_2 : ∀ w ∈ gC2, w ∈ GW := fun w h => gt_2 w (List.mem_append_left _ h)
theorem gc_3 : ∀ w ∈ gC3, w ∈ GW := fun w h => gt_3 w (List.mem_append_left _ h)
theorem gc_4 : ∀ w ∈ gC4, w ∈ GW := fun w h => gt_4 w (List.mem_append_left _ h)
theorem gc_5 : ∀ w ∈ gC5, w ∈ GW := fun w h => gt_5 w (List.mem_append_left _ h)
theorem gc_6 : ∀ w ∈ gC6, w ∈ GW := fun w h => gt_6 w (List.mem_append_left _ h)
theorem gc_7 : ∀ w ∈ gC7, w ∈ GW := fun w h => gt_7 w (List.mem_append_left _ h)
theorem gc_8 : ∀ w ∈ gC8, w ∈ GW := fun w h => gt_8 w (List.mem_append_left _ h)
theorem gc_9 : ∀ w ∈ gC9, w ∈ GW := fun w h => gt_9 w (List.mem_append_left _ h)
theorem gc_10 : ∀ w ∈ gC10, w ∈ GW := fun w h => gt_10 w (List.mem_append_left _ h)
theorem gc_11 : ∀ w ∈ gC11, w ∈ GW := fun w h => gt_11 w (List.mem_append_left _ h)
theorem gc_12 : ∀ w ∈ gC12, w ∈ GW := fun w h => gt_12 w (List.mem_append_left _ h)
theorem gc_13 : ∀ w ∈ gC13, w ∈ GW := fun w h => gt_13 w (List.mem_append_left _ h)
theorem gc_14 : ∀ w ∈ gC14, w ∈ GW := fun w h => gt_14 w (List.mem_append_left _ h)
theorem gc_15 : ∀ w ∈ gC15, w ∈ GW := fun w h => gt_15 w (List.mem_append_left _ h)
theorem gc_16 : ∀ w ∈ gC16, w ∈ GW := fun w h => gt_16 w (List.mem_append_left _ h)
theorem gc_17 : ∀ w ∈ gC17, w ∈ GW := fun w h => gt_17 w (List.mem_append_left _ h)
theorem gc_18 : ∀ w ∈ gC18, w ∈ GW := fun w h => gt_18 w (List.mem_append_left _ h)
theorem gc_19 : ∀ w ∈ gC19, w ∈ GW := fun w h => gt_19 w (List.mem_append_left _ h)
theorem gc_20 : ∀ w ∈ gC20, w ∈ GW := fun w h => gt_20 w (List.mem_append_left _ h)
theorem gc_21 : ∀ w ∈ gC21, w ∈ GW := fun w h => gt_21 w (List.mem_append_left _ h)
theorem gc_22 : ∀ w ∈ gC22, w ∈ GW := fun w h => gt_22 w (List.mem_append_left _ h)
theorem gc_23 : ∀ w ∈ gC23, w ∈ GW := fun w h => gt_23 w (List.mem_append_left _ h)
theorem gc_24 : ∀ w ∈ gC24, w ∈ GW := fun w h => gt_24 w (List.mem_append_left _ h)
theorem gu_ : ∀ w ∈ gU, w ∈ GW := fun w h => gt_24 w (List.mem_append_right _ h)
theorem gu_X0 : ∀ w ∈ wsX00, w ∈ GW := fun w h => gu_ w (List.mem_append_left _ h)
theorem gu_X1 : ∀ w ∈ wsX10, w ∈ GW := fun w h => gu_ w (List.mem_append_right _ (List.mem_append_left _ h))
theorem gu_X2 : ∀ w ∈ wsX20, w ∈ GW := fun w h => gu_ w (List.mem_append_right _ (List.mem_append_right _ (List.mem_append_left _ h)))
theorem gu_X3 : ∀ w ∈ wsX30, w ∈ GW := fun w h => gu_ w (List.mem_append_right _ (List.mem_append_right _ (List.mem_append_right _ (List.mem_append_left _ h))))
theorem gu_X4 : ∀ w ∈ wsX40, w ∈ GW := fun w h => gu_ w (List.mem_append_right _ (List.mem_append_right _ (List.mem_append_right _ (List.mem_append_right _ (List.mem_append_left _ h)))))
theorem gu_X5 : ∀ w ∈ wsX50, w ∈ GW := fun w h => gu_ w (List.mem_append_right _ (List.mem_append_right _ (List.mem_append_right _ (List.mem_append_right _ (List.mem_append_right _ (List.mem_append_left _ h))))))
theorem gu_X6 : ∀ w ∈ wsX60, w ∈ GW := fun w h => gu_ w (List.mem_append_right _ (List.mem_append_right _ (List.mem_append_right _ (List.mem_append_right _ (List.mem_append_right _ (List.mem_append_right _ (List.mem_append_left _ h)))))))
theorem gu_X7 : ∀ w ∈ wsX70, w ∈ GW := fun w h => gu_ w (List.mem_append_right _ (List.mem_append_right _ (List.mem_append_right _ (List.mem_append_right _ (List.mem_append_right _ (List.mem_append_right _ (List.mem_append_right _ (List.mem_append_left _ h))))))))
theorem gu_X8 : ∀ w ∈ wsX80, w ∈ GW := fun w h => gu_ w (List.mem_append_right _ (List.mem_append_right _ (List.mem_append_right _ (List.mem_append_right _ (List.mem_append_right _ (List.mem_append_right _ (List.mem_append_right _ (List.mem_append_right _ (List.mem_append_left _ h)))))))))
theorem gu_X10 : ∀ w ∈ wsX100, w ∈ GW := fun w h => gu_ w (List.mem_append_right _ (List.mem_append_right _ (List.mem_append_right _ (List.mem_append_right _ (List.mem_append_right _ (List.mem_append_right _ (List.mem_append_right _ (List.mem_append_right _ (List.mem_append_right _ (List.mem_append_left _ h))))))))))
theorem gu_X11 : ∀ w ∈ wsX110, w ∈ GW := fun w h => gu_ w (List.mem_append_right _ (List.mem_append_right _ (List.mem_append_right _ (List.mem_append_right _ (List.mem_append_right _ (List.mem_append_right _ (List.mem_append_right _ (List.mem_append_right _ (List.mem_append_right _ (List.mem_append_right _ (h)))))))))))
theorem gw_0 : Cond.code yX0_init cX0_init 1 none ∈ GW := gc_0 _ (List.mem_of_getElem? (i := 0) rfl)
theorem gw_1 : Cond.methodLink RX0 3 objectInit ∈ GW := gc_0 _ (List.mem_of_getElem? (i := 1) rfl)
theorem gw_2 : Cond.instanceMethod objectInit ∈ GW := gc_0 _ (List.mem_of_getElem? (i := 2) rfl)
theorem gw_3 : Cond.code objectInit ⟨#[0xb1]⟩ 1 none ∈ GW := gc_0 _ (List.mem_of_getElem? (i := 3) rfl)
theorem gw_4 : Cond.arrayClass .int ∈ GW := gc_0 _ (List.mem_of_getElem? (i := 4) rfl)
theorem gw_5 : Cond.fieldLink RX0 9 "IcePilots$Convoy" "from" "[I" ∈ GW := gc_0 _ (List.mem_of_getElem? (i := 5) rfl)
theorem gw_6 : Cond.fieldLink RX0 15 "IcePilots$Convoy" "takes" "[I" ∈ GW := gc_0 _ (List.mem_of_getElem? (i := 6) rfl)
theorem gw_7 : Cond.fieldLink RX0 18 "IcePilots$Convoy" "worth" "[I" ∈ GW := gc_0 _ (List.mem_of_getElem? (i := 7) rfl)
theorem gw_8 : Cond.fieldLink RX0 21 "IcePilots$Convoy" "settled" "[I" ∈ GW := gc_0 _ (List.mem_of_getElem? (i := 8) rfl)
theorem gw_9 : Cond.fieldLink RX0 24 "IcePilots$Convoy" "tried" "[I" ∈ GW := gc_0 _ (List.mem_of_getElem? (i := 9) rfl)
theorem gw_10 : Cond.fieldLink RX0 27 "IcePilots$Convoy" "size" "I" ∈ GW := gc_0 _ (List.mem_of_getElem? (i := 10) rfl)
theorem gw_11 : Cond.fieldLink RX0 31 "IcePilots$Convoy" "settledSize" "I" ∈ GW := gc_0 _ (List.mem_of_getElem? (i := 11) rfl)
theorem gw_12 : Cond.code yX0_copy cX0_copy 2 none ∈ GW := gc_0 _ (List.mem_of_getElem? (i := 12) rfl)
theorem gw_13 : Cond.methodLink RX0 34 arraycopyName ∈ GW := gc_0 _ (List.mem_of_getElem? (i := 13) rfl)
theorem gw_14 : Cond.native arraycopyName ∈ GW := gc_0 _ (List.mem_of_getElem? (i := 14) rfl)
theorem gw_15 : Cond.static arraycopyName ∈ GW := gc_0 _ (List.mem_of_getElem? (i := 15) rfl)
theorem gw_16 : Cond.initialized "java/lang/System" ∈ GW := gc_0 _ (List.mem_of_getElem? (i := 16) rfl)
theorem gw_17 : Cond.code yX0_join cX0_join 4 (some .int) ∈ GW := gc_0 _ (List.mem_of_getElem? (i := 17) rfl)
theorem gw_18 : Cond.code yX0_waiting cX0_waiting 9 (some .int) ∈ GW := gc_0 _ (List.mem_of_getElem? (i := 18) rfl)
theorem gw_19 : Cond.methodLink RX0 51 Lib.Math.max.name ∈ GW := gc_0 _ (List.mem_of_getElem? (i := 19) rfl)
theorem gw_20 : Cond.static Lib.Math.max.name ∈ GW := gc_0 _ (List.mem_of_getElem? (i := 20) rfl)
theorem gw_21 : Cond.initialized "java/lang/Math" ∈ GW := gc_0 _ (List.mem_of_getElem? (i := 21) rfl)
theorem gw_22 : Cond.code Lib.Math.max.name Lib.Math.max.code 2 (some .int) ∈ GW := gc_0 _ (List.mem_of_getElem? (i := 22) rfl)
theorem gw_23 : Cond.code yX0_keepTried cX0_keepTried 1 none ∈ GW := gc_0 _ (List.mem_of_getElem? (i := 23) rfl)
theorem gw_24 : Cond.code yX0_swap cX0_swap 4 none ∈ GW := gc_0 _ (List.mem_of_getElem? (i := 24) rfl)
theorem gw_25 : Cond.code yX0_tryNext cX0_tryNext 5 (some .boolean) ∈ GW := gc_0 _ (List.mem_of_getElem? (i := 25) rfl)
theorem gw_26 : Cond.methodLink RX0 57 yX0_swap ∈ GW := gc_0 _ (List.mem_of_getElem? (i := 26) rfl)
theorem gw_27 : Cond.instanceMethod yX0_swap ∈ GW := gc_0 _ (List.mem_of_getElem? (i := 27) rfl)
theorem gw_28 : Cond.selects RX0 yX0_swap yX0_swap ∈ GW := gc_0 _ (List.mem_of_getElem? (i := 28) rfl)
theorem gw_29 : Cond.initialized RX0 ∈ GW := gc_0 _ (List.mem_of_getElem? (i := 29) rfl)
theorem gw_30 : Cond.methodLink RX0 40 yX0_waiting ∈ GW := gc_0 _ (List.mem_of_getElem? (i := 30) rfl)
theorem gw_31 : Cond.instanceMethod yX0_waiting ∈ GW := gc_0 _ (List.mem_of_getElem? (i := 31) rfl)
theorem gw_32 : Cond.selects RX0 yX0_waiting yX0_waiting ∈ GW := gc_0 _ (List.mem_of_getElem? (i := 32) rfl)
theorem gw_33 : Cond.methodLink RX0 44 yX0_keepTried ∈ GW := gc_0 _ (List.mem_of_getElem? (i := 33) rfl)
theorem gw_34 : Cond.instanceMethod yX0_keepTried ∈ GW := gc_0 _ (List.mem_of_getElem? (i := 34) rfl)
theorem gw_35 : Cond.selects RX0 yX0_keepTried yX0_keepTried ∈ GW := gc_0 _ (List.mem_of_getElem? (i := 35) rfl)
theorem gw_36 : Cond.methodLink RX0 47 yX0_tryNext ∈ GW := gc_0 _ (List.mem_of_getElem? (i := 36) rfl)
theorem gw_37 : Cond.instanceMethod yX0_tryNext ∈ GW := gc_0 _ (List.mem_of_getElem? (i := 37) rfl)
theorem gw_38 : Cond.selects RX0 yX0_tryNext yX0_tryNext ∈ GW := gc_0 _ (List.mem_of_getElem? (i := 38) rfl)
theorem gw_39 : Cond.code yX0_settle cX0_settle 5 (some .int) ∈ GW := gc_0 _ (List.mem_of_getElem? (i := 39) rfl)
theorem gw_40 : Cond.code yX0_tryDigits cX0_tryDigits 5 (some .boolean) ∈ GW := gc_1 _ (List.mem_of_getElem? (i := 0) rfl)
theorem gw_41 : Cond.code yX1_init cX1_init 1 none ∈ GW := gc_1 _ (List.mem_of_getElem? (i := 1) rfl)
theorem gw_42 : Cond.methodLink RX1 3 objectInit ∈ GW := gc_1 _ (List.mem_of_getElem? (i := 2) rfl)
theorem gw_43 : Cond.fieldLink RX1 9 "IcePilots$Fleet" "strength" "[I" ∈ GW := gc_1 _ (List.mem_of_getElem? (i := 3) rfl)
theorem gw_44 : Cond.fieldLink RX1 15 "IcePilots$Fleet" "fuel" "[I" ∈ GW := gc_1 _ (List.mem_of_getElem? (i := 4) rfl)
theorem gw_45 : Cond.fieldLink RX1 18 "IcePilots$Fleet" "place" "[I" ∈ GW := gc_1 _ (List.mem_of_getElem? (i := 5) rfl)
theorem gw_46 : Cond.fieldLink RX1 21 "IcePilots$Fleet" "told" "[I" ∈ GW := gc_1 _ (List.mem_of_getElem? (i := 6) rfl)
theorem gw_47 : Cond.fieldLink RX1 24 "IcePilots$Fleet" "moved" "[I" ∈ GW := gc_1 _ (List.mem_of_getElem? (i := 7) rfl)
theorem gw_48 : Cond.fieldLink RX1 27 "IcePilots$Fleet" "line" "[I" ∈ GW := gc_1 _ (List.mem_of_getElem? (i := 8) rfl)
theorem gw_49 : Cond.arrayClass .boolean ∈ GW := gc_1 _ (List.mem_of_getElem? (i := 9) rfl)
theorem gw_50 : Cond.fieldLink RX1 30 "IcePilots$Fleet" "done" "[Z" ∈ GW := gc_1 _ (List.mem_of_getElem? (i := 10) rfl)
theorem gw_51 : Cond.classLink RX1 34 RX4 ∈ GW := gc_1 _ (List.mem_of_getElem? (i := 11) rfl)
theorem gw_52 : Cond.fieldLink RX1 36 "IcePilots$Fleet" "orders" "[LIcePilots$Orders;" ∈ GW := gc_1 _ (List.mem_of_getElem? (i := 12) rfl)
theorem gw_53 : Cond.fieldLink RX1 40 "IcePilots$Fleet" "size" "I" ∈ GW := gc_1 _ (List.mem_of_getElem? (i := 13) rfl)
theorem gw_54 : Cond.code yX1_copy cX1_copy 3 none ∈ GW := gc_1 _ (List.mem_of_getElem? (i := 14) rfl)
theorem gw_55 : Cond.methodLink RX1 44 arraycopyName ∈ GW := gc_1 _ (List.mem_of_getElem? (i := 15) rfl)
theorem gw_56 : Cond.code yX1_join cX1_join 4 (some .int) ∈ GW := gc_1 _ (List.mem_of_getElem? (i := 16) rfl)
theorem gw_57 : Cond.code yX1_has cX1_has 2 (some .boolean) ∈ GW := gc_1 _ (List.mem_of_getElem? (i := 17) rfl)
theorem gw_58 : Cond.code yX1_isBreaker cX1_isBreaker 2 (some .boolean) ∈ GW := gc_1 _ (List.mem_of_getElem? (i := 18) rfl)
theorem gw_59 : Cond.code yX1_linesOf cX1_linesOf 3 (some .int) ∈ GW := gc_1 _ (List.mem_of_getElem? (i := 19) rfl)
theorem gw_60 : Cond.fieldLink RX1 50 "IcePilots$Orders" "acts" "[I" ∈ GW := gc_1 _ (List.mem_of_getElem? (i := 20) rfl)
theorem gw_61 : Cond.code yX1_shipIn cX1_shipIn 3 (some .int) ∈ GW := gc_1 _ (List.mem_of_getElem? (i := 21) rfl)
theorem gw_62 : Cond.code yX1_beside cX1_beside 5 (some .boolean) ∈ GW := gc_1 _ (List.mem_of_getElem? (i := 22) rfl)
theorem gw_63 : Cond.code yX1_breakerBeside cX1_breakerBeside 3 (some .boolean) ∈ GW := gc_1 _ (List.mem_of_getElem? (i := 23) rfl)
theorem gw_64 : Cond.methodLink RX1 53 yX1_isBreaker ∈ GW := gc_1 _ (List.mem_of_getElem? (i := 24) rfl)
theorem gw_65 : Cond.instanceMethod yX1_isBreaker ∈ GW := gc_1 _ (List.mem_of_getElem? (i := 25) rfl)
theorem gw_66 : Cond.selects RX1 yX1_isBreaker yX1_isBreaker ∈ GW := gc_1 _ (List.mem_of_getElem? (i := 26) rfl)
theorem gw_67 : Cond.initialized RX1 ∈ GW := gc_1 _ (List.mem_of_getElem? (i := 27) rfl)
theorem gw_68 : Cond.methodLink RX1 57 yX1_beside ∈ GW := gc_1 _ (List.mem_of_getElem? (i := 28) rfl)
theorem gw_69 : Cond.instanceMethod yX1_beside ∈ GW := gc_1 _ (List.mem_of_getElem? (i := 29) rfl)
theorem gw_70 : Cond.selects RX1 yX1_beside yX1_beside ∈ GW := gc_1 _ (List.mem_of_getElem? (i := 30) rfl)
theorem gw_71 : Cond.code yX1_shipsBeside cX1_shipsBeside 4 (some .int) ∈ GW := gc_1 _ (List.mem_of_getElem? (i := 31) rfl)
theorem gw_72 : Cond.code yX1_tellOthers cX1_tellOthers 4 none ∈ GW := gc_1 _ (List.mem_of_getElem? (i := 32) rfl)
theorem gw_73 : Cond.code yX3_init cX3_init 1 none ∈ GW := gc_1 _ (List.mem_of_getElem? (i := 33) rfl)
theorem gw_74 : Cond.methodLink RX3 3 objectInit ∈ GW := gc_1 _ (List.mem_of_getElem? (i := 34) rfl)
theorem gw_75 : Cond.fieldLink RX3 9 "IcePilots$Ice" "sea" "[Z" ∈ GW := gc_1 _ (List.mem_of_getElem? (i := 35) rfl)
theorem gw_76 : Cond.fieldLink RX3 15 "IcePilots$Ice" "fast" "[Z" ∈ GW := gc_1 _ (List.mem_of_getElem? (i := 36) rfl)
theorem gw_77 : Cond.fieldLink RX3 18 "IcePilots$Ice" "level" "[I" ∈ GW := gc_1 _ (List.mem_of_getElem? (i := 37) rfl)
theorem gw_78 : Cond.fieldLink RX3 22 "IcePilots$Ice" "ridged" "[I" ∈ GW := gc_1 _ (List.mem_of_getElem? (i := 38) rfl)
theorem gw_79 : Cond.fieldLink RX3 25 "IcePilots$Ice" "channel" "[I" ∈ GW := gc_1 _ (List.mem_of_getElem? (i := 39) rfl)
theorem gw_80 : Cond.fieldLink RX3 28 "IcePilots$Ice" "arrived" "[I" ∈ GW := gc_2 _ (List.mem_of_getElem? (i := 0) rfl)
theorem gw_81 : Cond.fieldLink RX3 31 "IcePilots$Ice" "rows" "I" ∈ GW := gc_2 _ (List.mem_of_getElem? (i := 1) rfl)
theorem gw_82 : Cond.fieldLink RX3 35 "IcePilots$Ice" "columns" "I" ∈ GW := gc_2 _ (List.mem_of_getElem? (i := 2) rfl)
theorem gw_83 : Cond.fieldLink RX3 38 "IcePilots$Ice" "laid" "I" ∈ GW := gc_2 _ (List.mem_of_getElem? (i := 3) rfl)
theorem gw_84 : Cond.fieldLink RX3 41 "IcePilots$Ice" "grown" "I" ∈ GW := gc_2 _ (List.mem_of_getElem? (i := 4) rfl)
theorem gw_85 : Cond.fieldLink RX3 44 "IcePilots$Ice" "melted" "I" ∈ GW := gc_2 _ (List.mem_of_getElem? (i := 5) rfl)
theorem gw_86 : Cond.methodLink RX2 3 objectInit ∈ GW := gc_2 _ (List.mem_of_getElem? (i := 6) rfl)
theorem gw_87 : Cond.classLink RX2 9 RX3 ∈ GW := gc_2 _ (List.mem_of_getElem? (i := 7) rfl)
theorem gw_88 : Cond.instantiable RX3 11 ∈ GW := gc_2 _ (List.mem_of_getElem? (i := 8) rfl)
theorem gw_89 : Cond.initialized RX3 ∈ GW := gc_2 _ (List.mem_of_getElem? (i := 9) rfl)
theorem gw_90 : Cond.fieldLink RX2 12 "IcePilots$Gulf" "ice" "LIcePilots$Ice;" ∈ GW := gc_2 _ (List.mem_of_getElem? (i := 10) rfl)
theorem gw_91 : Cond.classLink RX2 18 RX1 ∈ GW := gc_2 _ (List.mem_of_getElem? (i := 11) rfl)
theorem gw_92 : Cond.instantiable RX1 9 ∈ GW := gc_2 _ (List.mem_of_getElem? (i := 12) rfl)
theorem gw_93 : Cond.fieldLink RX2 21 "IcePilots$Gulf" "fleet" "LIcePilots$Fleet;" ∈ GW := gc_2 _ (List.mem_of_getElem? (i := 13) rfl)
theorem gw_94 : Cond.fieldLink RX2 25 "IcePilots$Gulf" "hour" "I" ∈ GW := gc_2 _ (List.mem_of_getElem? (i := 14) rfl)
theorem gw_95 : Cond.fieldLink RX2 29 "IcePilots$Gulf" "weather" "LIcePilots$Weather;" ∈ GW := gc_2 _ (List.mem_of_getElem? (i := 15) rfl)
theorem gw_96 : Cond.instanceMethod yX3_init ∈ GW := gc_2 _ (List.mem_of_getElem? (i := 16) rfl)
theorem gw_97 : Cond.instanceMethod yX1_init ∈ GW := gc_2 _ (List.mem_of_getElem? (i := 17) rfl)
theorem gw_98 : Cond.code yX2_init cX2_init 2 none ∈ GW := gc_2 _ (List.mem_of_getElem? (i := 18) rfl)
theorem gw_99 : Cond.code yX3_empty cX3_empty 3 none ∈ GW := gc_2 _ (List.mem_of_getElem? (i := 19) rfl)
theorem gw_100 : Cond.code yX3_begin cX3_begin 4 none ∈ GW := gc_2 _ (List.mem_of_getElem? (i := 20) rfl)
theorem gw_101 : Cond.methodLink RX3 47 yX3_empty ∈ GW := gc_2 _ (List.mem_of_getElem? (i := 21) rfl)
theorem gw_102 : Cond.instanceMethod yX3_empty ∈ GW := gc_2 _ (List.mem_of_getElem? (i := 22) rfl)
theorem gw_103 : Cond.selects RX3 yX3_empty yX3_empty ∈ GW := gc_2 _ (List.mem_of_getElem? (i := 23) rfl)
theorem gw_104 : Cond.code yX7_put cX7_put 7 none ∈ GW := gc_2 _ (List.mem_of_getElem? (i := 24) rfl)
theorem gw_105 : Cond.methodLink RX7 21 Lib.Math.max.name ∈ GW := gc_2 _ (List.mem_of_getElem? (i := 25) rfl)
theorem gw_106 : Cond.fieldLink RX7 9 "IcePilots$Weather" "cold" "[I" ∈ GW := gc_2 _ (List.mem_of_getElem? (i := 26) rfl)
theorem gw_107 : Cond.fieldLink RX7 15 "IcePilots$Weather" "way" "[I" ∈ GW := gc_2 _ (List.mem_of_getElem? (i := 27) rfl)
theorem gw_108 : Cond.fieldLink RX7 18 "IcePilots$Weather" "force" "[I" ∈ GW := gc_2 _ (List.mem_of_getElem? (i := 28) rfl)
theorem gw_109 : Cond.fieldLink RX2 37 "IcePilots$Fleet" "size" "I" ∈ GW := gc_2 _ (List.mem_of_getElem? (i := 29) rfl)
theorem gw_110 : Cond.methodLink RX2 33 yX3_begin ∈ GW := gc_2 _ (List.mem_of_getElem? (i := 30) rfl)
theorem gw_111 : Cond.instanceMethod yX3_begin ∈ GW := gc_2 _ (List.mem_of_getElem? (i := 31) rfl)
theorem gw_112 : Cond.selects RX3 yX3_begin yX3_begin ∈ GW := gc_2 _ (List.mem_of_getElem? (i := 32) rfl)
theorem gw_113 : Cond.methodLink RX2 40 yX7_put ∈ GW := gc_2 _ (List.mem_of_getElem? (i := 33) rfl)
theorem gw_114 : Cond.instanceMethod yX7_put ∈ GW := gc_2 _ (List.mem_of_getElem? (i := 34) rfl)
theorem gw_115 : Cond.selects RX7 yX7_put yX7_put ∈ GW := gc_2 _ (List.mem_of_getElem? (i := 35) rfl)
theorem gw_116 : Cond.initialized RX7 ∈ GW := gc_2 _ (List.mem_of_getElem? (i := 36) rfl)
theorem gw_117 : Cond.code yX2_begin cX2_begin 3 none ∈ GW := gc_2 _ (List.mem_of_getElem? (i := 37) rfl)
theorem gw_118 : Cond.code yX3_copy cX3_copy 2 none ∈ GW := gc_2 _ (List.mem_of_getElem? (i := 38) rfl)
theorem gw_119 : Cond.methodLink RX3 51 arraycopyName ∈ GW := gc_2 _ (List.mem_of_getElem? (i := 39) rfl)
theorem gw_120 : Cond.methodLink RX2 46 yX3_copy ∈ GW := gc_3 _ (List.mem_of_getElem? (i := 0) rfl)
theorem gw_121 : Cond.instanceMethod yX3_copy ∈ GW := gc_3 _ (List.mem_of_getElem? (i := 1) rfl)
theorem gw_122 : Cond.selects RX3 yX3_copy yX3_copy ∈ GW := gc_3 _ (List.mem_of_getElem? (i := 2) rfl)
theorem gw_123 : Cond.methodLink RX2 50 yX1_copy ∈ GW := gc_3 _ (List.mem_of_getElem? (i := 3) rfl)
theorem gw_124 : Cond.instanceMethod yX1_copy ∈ GW := gc_3 _ (List.mem_of_getElem? (i := 4) rfl)
theorem gw_125 : Cond.selects RX1 yX1_copy yX1_copy ∈ GW := gc_3 _ (List.mem_of_getElem? (i := 5) rfl)
theorem gw_126 : Cond.code yX2_copyAllButWeather cX2_copyAllButWeather 2 none ∈ GW := gc_3 _ (List.mem_of_getElem? (i := 6) rfl)
theorem gw_127 : Cond.code yX4_whatOf cX4_whatOf 1 (some .int) ∈ GW := gc_3 _ (List.mem_of_getElem? (i := 7) rfl)
theorem gw_128 : Cond.code yX3_burden cX3_burden 2 (some .int) ∈ GW := gc_3 _ (List.mem_of_getElem? (i := 8) rfl)
theorem gw_129 : Cond.fieldLink RX2 85 "IcePilots$Fleet" "place" "[I" ∈ GW := gc_3 _ (List.mem_of_getElem? (i := 9) rfl)
theorem gw_130 : Cond.fieldLink RX2 92 "IcePilots$Fleet" "strength" "[I" ∈ GW := gc_3 _ (List.mem_of_getElem? (i := 10) rfl)
theorem gw_131 : Cond.methodLink RX2 88 yX3_burden ∈ GW := gc_3 _ (List.mem_of_getElem? (i := 11) rfl)
theorem gw_132 : Cond.instanceMethod yX3_burden ∈ GW := gc_3 _ (List.mem_of_getElem? (i := 12) rfl)
theorem gw_133 : Cond.selects RX3 yX3_burden yX3_burden ∈ GW := gc_3 _ (List.mem_of_getElem? (i := 13) rfl)
theorem gw_134 : Cond.methodLink RX2 95 yX1_breakerBeside ∈ GW := gc_3 _ (List.mem_of_getElem? (i := 14) rfl)
theorem gw_135 : Cond.instanceMethod yX1_breakerBeside ∈ GW := gc_3 _ (List.mem_of_getElem? (i := 15) rfl)
theorem gw_136 : Cond.selects RX1 yX1_breakerBeside yX1_breakerBeside ∈ GW := gc_3 _ (List.mem_of_getElem? (i := 16) rfl)
theorem gw_137 : Cond.code yX2_held cX2_held 2 (some .boolean) ∈ GW := gc_3 _ (List.mem_of_getElem? (i := 17) rfl)
theorem gw_138 : Cond.code yX3_find cX3_find 3 (some .int) ∈ GW := gc_3 _ (List.mem_of_getElem? (i := 18) rfl)
theorem gw_139 : Cond.code yX3_next cX3_next 5 (some .int) ∈ GW := gc_3 _ (List.mem_of_getElem? (i := 19) rfl)
theorem gw_140 : Cond.methodLink RX3 57 yX3_find ∈ GW := gc_3 _ (List.mem_of_getElem? (i := 20) rfl)
theorem gw_141 : Cond.instanceMethod yX3_find ∈ GW := gc_3 _ (List.mem_of_getElem? (i := 21) rfl)
theorem gw_142 : Cond.selects RX3 yX3_find yX3_find ∈ GW := gc_3 _ (List.mem_of_getElem? (i := 22) rfl)
theorem gw_143 : Cond.fieldLink RX2 166 "IcePilots$Ice" "sea" "[Z" ∈ GW := gc_3 _ (List.mem_of_getElem? (i := 23) rfl)
theorem gw_144 : Cond.methodLink RX2 163 yX3_next ∈ GW := gc_3 _ (List.mem_of_getElem? (i := 24) rfl)
theorem gw_145 : Cond.instanceMethod yX3_next ∈ GW := gc_3 _ (List.mem_of_getElem? (i := 25) rfl)
theorem gw_146 : Cond.selects RX3 yX3_next yX3_next ∈ GW := gc_3 _ (List.mem_of_getElem? (i := 26) rfl)
theorem gw_147 : Cond.methodLink RX2 169 yX1_shipIn ∈ GW := gc_3 _ (List.mem_of_getElem? (i := 27) rfl)
theorem gw_148 : Cond.instanceMethod yX1_shipIn ∈ GW := gc_3 _ (List.mem_of_getElem? (i := 28) rfl)
theorem gw_149 : Cond.selects RX1 yX1_shipIn yX1_shipIn ∈ GW := gc_3 _ (List.mem_of_getElem? (i := 29) rfl)
theorem gw_150 : Cond.code yX2_burdenSeen cX2_burdenSeen 4 (some .int) ∈ GW := gc_3 _ (List.mem_of_getElem? (i := 30) rfl)
theorem gw_151 : Cond.fieldLink RX2 142 "IcePilots$Ice" "level" "[I" ∈ GW := gc_3 _ (List.mem_of_getElem? (i := 31) rfl)
theorem gw_152 : Cond.fieldLink RX2 145 "IcePilots$Ice" "ridged" "[I" ∈ GW := gc_3 _ (List.mem_of_getElem? (i := 32) rfl)
theorem gw_153 : Cond.fieldLink RX2 148 "IcePilots$Fleet" "fuel" "[I" ∈ GW := gc_3 _ (List.mem_of_getElem? (i := 33) rfl)
theorem gw_154 : Cond.fieldLink RX2 157 "IcePilots$Fleet" "told" "[I" ∈ GW := gc_3 _ (List.mem_of_getElem? (i := 34) rfl)
theorem gw_155 : Cond.methodLink RX2 151 yX2_held ∈ GW := gc_3 _ (List.mem_of_getElem? (i := 35) rfl)
theorem gw_156 : Cond.instanceMethod yX2_held ∈ GW := gc_3 _ (List.mem_of_getElem? (i := 36) rfl)
theorem gw_157 : Cond.selects RX2 yX2_held yX2_held ∈ GW := gc_3 _ (List.mem_of_getElem? (i := 37) rfl)
theorem gw_158 : Cond.initialized RX2 ∈ GW := gc_3 _ (List.mem_of_getElem? (i := 38) rfl)
theorem gw_159 : Cond.methodLink RX2 154 yX1_shipsBeside ∈ GW := gc_3 _ (List.mem_of_getElem? (i := 39) rfl)
theorem gw_160 : Cond.instanceMethod yX1_shipsBeside ∈ GW := gc_4 _ (List.mem_of_getElem? (i := 0) rfl)
theorem gw_161 : Cond.selects RX1 yX1_shipsBeside yX1_shipsBeside ∈ GW := gc_4 _ (List.mem_of_getElem? (i := 1) rfl)
theorem gw_162 : Cond.methodLink RX2 160 yX2_burdenSeen ∈ GW := gc_4 _ (List.mem_of_getElem? (i := 2) rfl)
theorem gw_163 : Cond.instanceMethod yX2_burdenSeen ∈ GW := gc_4 _ (List.mem_of_getElem? (i := 3) rfl)
theorem gw_164 : Cond.selects RX2 yX2_burdenSeen yX2_burdenSeen ∈ GW := gc_4 _ (List.mem_of_getElem? (i := 4) rfl)
theorem gw_165 : Cond.code yX2_sight cX2_sight 4 (some .int) ∈ GW := gc_4 _ (List.mem_of_getElem? (i := 5) rfl)
theorem gw_166 : Cond.code yX4_agrees cX4_agrees 3 (some .boolean) ∈ GW := gc_4 _ (List.mem_of_getElem? (i := 6) rfl)
theorem gw_167 : Cond.fieldLink RX2 126 "IcePilots$Orders" "ends" "[I" ∈ GW := gc_4 _ (List.mem_of_getElem? (i := 7) rfl)
theorem gw_168 : Cond.fieldLink RX2 129 "IcePilots$Orders" "steps" "[I" ∈ GW := gc_4 _ (List.mem_of_getElem? (i := 8) rfl)
theorem gw_169 : Cond.methodLink RX2 132 yX4_whatOf ∈ GW := gc_4 _ (List.mem_of_getElem? (i := 9) rfl)
theorem gw_170 : Cond.static yX4_whatOf ∈ GW := gc_4 _ (List.mem_of_getElem? (i := 10) rfl)
theorem gw_171 : Cond.initialized RX4 ∈ GW := gc_4 _ (List.mem_of_getElem? (i := 11) rfl)
theorem gw_172 : Cond.methodLink RX2 135 yX2_sight ∈ GW := gc_4 _ (List.mem_of_getElem? (i := 12) rfl)
theorem gw_173 : Cond.instanceMethod yX2_sight ∈ GW := gc_4 _ (List.mem_of_getElem? (i := 13) rfl)
theorem gw_174 : Cond.selects RX2 yX2_sight yX2_sight ∈ GW := gc_4 _ (List.mem_of_getElem? (i := 14) rfl)
theorem gw_175 : Cond.methodLink RX2 138 yX4_agrees ∈ GW := gc_4 _ (List.mem_of_getElem? (i := 15) rfl)
theorem gw_176 : Cond.static yX4_agrees ∈ GW := gc_4 _ (List.mem_of_getElem? (i := 16) rfl)
theorem gw_177 : Cond.code yX2_holds cX2_holds 8 (some .boolean) ∈ GW := gc_4 _ (List.mem_of_getElem? (i := 17) rfl)
theorem gw_178 : Cond.code yX2_cut cX2_cut 3 (some .boolean) ∈ GW := gc_4 _ (List.mem_of_getElem? (i := 18) rfl)
theorem gw_179 : Cond.fieldLink RX2 181 "IcePilots$Ice" "channel" "[I" ∈ GW := gc_4 _ (List.mem_of_getElem? (i := 19) rfl)
theorem gw_180 : Cond.fieldLink RX2 187 "IcePilots$Fleet" "moved" "[I" ∈ GW := gc_4 _ (List.mem_of_getElem? (i := 20) rfl)
theorem gw_181 : Cond.methodLink RX2 184 yX1_isBreaker ∈ GW := gc_4 _ (List.mem_of_getElem? (i := 21) rfl)
theorem gw_182 : Cond.code yX2_move cX2_move 7 (some .boolean) ∈ GW := gc_4 _ (List.mem_of_getElem? (i := 22) rfl)
theorem gw_183 : Cond.methodLink RX2 172 yX2_cut ∈ GW := gc_4 _ (List.mem_of_getElem? (i := 23) rfl)
theorem gw_184 : Cond.instanceMethod yX2_cut ∈ GW := gc_4 _ (List.mem_of_getElem? (i := 24) rfl)
theorem gw_185 : Cond.selects RX2 yX2_cut yX2_cut ∈ GW := gc_4 _ (List.mem_of_getElem? (i := 25) rfl)
theorem gw_186 : Cond.methodLink RX2 175 yX1_tellOthers ∈ GW := gc_4 _ (List.mem_of_getElem? (i := 26) rfl)
theorem gw_187 : Cond.instanceMethod yX1_tellOthers ∈ GW := gc_4 _ (List.mem_of_getElem? (i := 27) rfl)
theorem gw_188 : Cond.selects RX1 yX1_tellOthers yX1_tellOthers ∈ GW := gc_4 _ (List.mem_of_getElem? (i := 28) rfl)
theorem gw_189 : Cond.methodLink RX2 178 yX2_move ∈ GW := gc_4 _ (List.mem_of_getElem? (i := 29) rfl)
theorem gw_190 : Cond.instanceMethod yX2_move ∈ GW := gc_4 _ (List.mem_of_getElem? (i := 30) rfl)
theorem gw_191 : Cond.selects RX2 yX2_move yX2_move ∈ GW := gc_4 _ (List.mem_of_getElem? (i := 31) rfl)
theorem gw_192 : Cond.code yX2_carryOut cX2_carryOut 4 (some .boolean) ∈ GW := gc_4 _ (List.mem_of_getElem? (i := 32) rfl)
theorem gw_193 : Cond.fieldLink RX2 99 "IcePilots$Fleet" "line" "[I" ∈ GW := gc_4 _ (List.mem_of_getElem? (i := 33) rfl)
theorem gw_194 : Cond.fieldLink RX2 102 "IcePilots$Fleet" "done" "[Z" ∈ GW := gc_4 _ (List.mem_of_getElem? (i := 34) rfl)
theorem gw_195 : Cond.fieldLink RX2 106 "IcePilots$Fleet" "orders" "[LIcePilots$Orders;" ∈ GW := gc_4 _ (List.mem_of_getElem? (i := 35) rfl)
theorem gw_196 : Cond.fieldLink RX2 110 "IcePilots$Orders" "acts" "[I" ∈ GW := gc_4 _ (List.mem_of_getElem? (i := 36) rfl)
theorem gw_197 : Cond.fieldLink RX2 119 "IcePilots$Orders" "numbers" "[I" ∈ GW := gc_4 _ (List.mem_of_getElem? (i := 37) rfl)
theorem gw_198 : Cond.methodLink RX2 115 yX2_holds ∈ GW := gc_4 _ (List.mem_of_getElem? (i := 38) rfl)
theorem gw_199 : Cond.instanceMethod yX2_holds ∈ GW := gc_4 _ (List.mem_of_getElem? (i := 39) rfl)
theorem gw_200 : Cond.selects RX2 yX2_holds yX2_holds ∈ GW := gc_5 _ (List.mem_of_getElem? (i := 0) rfl)
theorem gw_201 : Cond.methodLink RX2 122 yX2_carryOut ∈ GW := gc_5 _ (List.mem_of_getElem? (i := 1) rfl)
theorem gw_202 : Cond.instanceMethod yX2_carryOut ∈ GW := gc_5 _ (List.mem_of_getElem? (i := 2) rfl)
theorem gw_203 : Cond.selects RX2 yX2_carryOut yX2_carryOut ∈ GW := gc_5 _ (List.mem_of_getElem? (i := 3) rfl)
theorem gw_204 : Cond.code yX2_command cX2_command 4 none ∈ GW := gc_5 _ (List.mem_of_getElem? (i := 4) rfl)
theorem gw_205 : Cond.code yX3_grow cX3_grow 4 none ∈ GW := gc_5 _ (List.mem_of_getElem? (i := 5) rfl)
theorem gw_206 : Cond.code yX3_melt cX3_melt 5 none ∈ GW := gc_5 _ (List.mem_of_getElem? (i := 6) rfl)
theorem gw_207 : Cond.code yJ7_fill_53178 cJ7_fill_53178 4 none ∈ GW := gc_5 _ (List.mem_of_getElem? (i := 7) rfl)
theorem gw_208 : Cond.code yX3_send cX3_send 4 none ∈ GW := gc_5 _ (List.mem_of_getElem? (i := 8) rfl)
theorem gw_209 : Cond.methodLink RX3 78 Lib.Math.min.name ∈ GW := gc_5 _ (List.mem_of_getElem? (i := 9) rfl)
theorem gw_210 : Cond.static Lib.Math.min.name ∈ GW := gc_5 _ (List.mem_of_getElem? (i := 10) rfl)
theorem gw_211 : Cond.code Lib.Math.min.name Lib.Math.min.code 2 (some .int) ∈ GW := gc_5 _ (List.mem_of_getElem? (i := 11) rfl)
theorem gw_212 : Cond.methodLink RX3 65 yJ7_fill_53178 ∈ GW := gc_5 _ (List.mem_of_getElem? (i := 12) rfl)
theorem gw_213 : Cond.static yJ7_fill_53178 ∈ GW := gc_5 _ (List.mem_of_getElem? (i := 13) rfl)
theorem gw_214 : Cond.initialized RJ7 ∈ GW := gc_5 _ (List.mem_of_getElem? (i := 14) rfl)
theorem gw_215 : Cond.methodLink RX3 71 yX3_next ∈ GW := gc_5 _ (List.mem_of_getElem? (i := 15) rfl)
theorem gw_216 : Cond.methodLink RX3 74 yX3_send ∈ GW := gc_5 _ (List.mem_of_getElem? (i := 16) rfl)
theorem gw_217 : Cond.instanceMethod yX3_send ∈ GW := gc_5 _ (List.mem_of_getElem? (i := 17) rfl)
theorem gw_218 : Cond.selects RX3 yX3_send yX3_send ∈ GW := gc_5 _ (List.mem_of_getElem? (i := 18) rfl)
theorem gw_219 : Cond.code yX3_drift cX3_drift 5 none ∈ GW := gc_5 _ (List.mem_of_getElem? (i := 19) rfl)
theorem gw_220 : Cond.code yX3_closeChannels cX3_closeChannels 3 none ∈ GW := gc_5 _ (List.mem_of_getElem? (i := 20) rfl)
theorem gw_221 : Cond.fieldLink RX2 57 "IcePilots$Weather" "cold" "[I" ∈ GW := gc_5 _ (List.mem_of_getElem? (i := 21) rfl)
theorem gw_222 : Cond.fieldLink RX2 67 "IcePilots$Weather" "way" "[I" ∈ GW := gc_5 _ (List.mem_of_getElem? (i := 22) rfl)
theorem gw_223 : Cond.fieldLink RX2 70 "IcePilots$Weather" "force" "[I" ∈ GW := gc_5 _ (List.mem_of_getElem? (i := 23) rfl)
theorem gw_224 : Cond.methodLink RX2 76 Lib.Math.max.name ∈ GW := gc_5 _ (List.mem_of_getElem? (i := 24) rfl)
theorem gw_225 : Cond.methodLink RX2 53 yX2_command ∈ GW := gc_5 _ (List.mem_of_getElem? (i := 25) rfl)
theorem gw_226 : Cond.instanceMethod yX2_command ∈ GW := gc_5 _ (List.mem_of_getElem? (i := 26) rfl)
theorem gw_227 : Cond.selects RX2 yX2_command yX2_command ∈ GW := gc_5 _ (List.mem_of_getElem? (i := 27) rfl)
theorem gw_228 : Cond.methodLink RX2 61 yX3_grow ∈ GW := gc_5 _ (List.mem_of_getElem? (i := 28) rfl)
theorem gw_229 : Cond.instanceMethod yX3_grow ∈ GW := gc_5 _ (List.mem_of_getElem? (i := 29) rfl)
theorem gw_230 : Cond.selects RX3 yX3_grow yX3_grow ∈ GW := gc_5 _ (List.mem_of_getElem? (i := 30) rfl)
theorem gw_231 : Cond.methodLink RX2 64 yX3_melt ∈ GW := gc_5 _ (List.mem_of_getElem? (i := 31) rfl)
theorem gw_232 : Cond.instanceMethod yX3_melt ∈ GW := gc_5 _ (List.mem_of_getElem? (i := 32) rfl)
theorem gw_233 : Cond.selects RX3 yX3_melt yX3_melt ∈ GW := gc_5 _ (List.mem_of_getElem? (i := 33) rfl)
theorem gw_234 : Cond.methodLink RX2 73 yX3_drift ∈ GW := gc_5 _ (List.mem_of_getElem? (i := 34) rfl)
theorem gw_235 : Cond.instanceMethod yX3_drift ∈ GW := gc_5 _ (List.mem_of_getElem? (i := 35) rfl)
theorem gw_236 : Cond.selects RX3 yX3_drift yX3_drift ∈ GW := gc_5 _ (List.mem_of_getElem? (i := 36) rfl)
theorem gw_237 : Cond.methodLink RX2 82 yX3_closeChannels ∈ GW := gc_5 _ (List.mem_of_getElem? (i := 37) rfl)
theorem gw_238 : Cond.instanceMethod yX3_closeChannels ∈ GW := gc_5 _ (List.mem_of_getElem? (i := 38) rfl)
theorem gw_239 : Cond.selects RX3 yX3_closeChannels yX3_closeChannels ∈ GW := gc_5 _ (List.mem_of_getElem? (i := 39) rfl)
theorem gw_240 : Cond.code yX2_passHour cX2_passHour 2 none ∈ GW := gc_6 _ (List.mem_of_getElem? (i := 0) rfl)
theorem gw_241 : Cond.code yX3_lay cX3_lay 4 none ∈ GW := gc_6 _ (List.mem_of_getElem? (i := 1) rfl)
theorem gw_242 : Cond.code yX3_sumOf cX3_sumOf 4 (some .int) ∈ GW := gc_6 _ (List.mem_of_getElem? (i := 2) rfl)
theorem gw_243 : Cond.code yX3_allLevel cX3_allLevel 1 (some .int) ∈ GW := gc_6 _ (List.mem_of_getElem? (i := 3) rfl)
theorem gw_244 : Cond.methodLink RX3 61 yX3_sumOf ∈ GW := gc_6 _ (List.mem_of_getElem? (i := 4) rfl)
theorem gw_245 : Cond.instanceMethod yX3_sumOf ∈ GW := gc_6 _ (List.mem_of_getElem? (i := 5) rfl)
theorem gw_246 : Cond.selects RX3 yX3_sumOf yX3_sumOf ∈ GW := gc_6 _ (List.mem_of_getElem? (i := 6) rfl)
theorem gw_247 : Cond.code yX3_allRidged cX3_allRidged 1 (some .int) ∈ GW := gc_6 _ (List.mem_of_getElem? (i := 7) rfl)
theorem gw_248 : Cond.code yX4_init cX4_init 5 none ∈ GW := gc_6 _ (List.mem_of_getElem? (i := 8) rfl)
theorem gw_249 : Cond.methodLink RX4 1 objectInit ∈ GW := gc_6 _ (List.mem_of_getElem? (i := 9) rfl)
theorem gw_250 : Cond.fieldLink RX4 7 "IcePilots$Orders" "steps" "[I" ∈ GW := gc_6 _ (List.mem_of_getElem? (i := 10) rfl)
theorem gw_251 : Cond.fieldLink RX4 13 "IcePilots$Orders" "ends" "[I" ∈ GW := gc_6 _ (List.mem_of_getElem? (i := 11) rfl)
theorem gw_252 : Cond.fieldLink RX4 16 "IcePilots$Orders" "acts" "[I" ∈ GW := gc_6 _ (List.mem_of_getElem? (i := 12) rfl)
theorem gw_253 : Cond.fieldLink RX4 19 "IcePilots$Orders" "numbers" "[I" ∈ GW := gc_6 _ (List.mem_of_getElem? (i := 13) rfl)
theorem gw_254 : Cond.code yX4_comparison cX4_comparison 3 (some .int) ∈ GW := gc_6 _ (List.mem_of_getElem? (i := 14) rfl)
theorem gw_255 : Cond.code yX5_init cX5_init 1 none ∈ GW := gc_6 _ (List.mem_of_getElem? (i := 15) rfl)
theorem gw_256 : Cond.methodLink RX5 3 objectInit ∈ GW := gc_6 _ (List.mem_of_getElem? (i := 16) rfl)
theorem gw_257 : Cond.fieldLink RX5 9 "IcePilots$Reader" "tokens" "[I" ∈ GW := gc_6 _ (List.mem_of_getElem? (i := 17) rfl)
theorem gw_258 : Cond.fieldLink RX5 15 "IcePilots$Reader" "places" "[I" ∈ GW := gc_6 _ (List.mem_of_getElem? (i := 18) rfl)
theorem gw_259 : Cond.fieldLink RX5 18 "IcePilots$Reader" "values" "[I" ∈ GW := gc_6 _ (List.mem_of_getElem? (i := 19) rfl)
theorem gw_260 : Cond.fieldLink RX5 21 "IcePilots$Reader" "size" "I" ∈ GW := gc_6 _ (List.mem_of_getElem? (i := 20) rfl)
theorem gw_261 : Cond.fieldLink RX5 25 "IcePilots$Reader" "at" "I" ∈ GW := gc_6 _ (List.mem_of_getElem? (i := 21) rfl)
theorem gw_262 : Cond.fieldLink RX5 28 "IcePilots$Reader" "steps" "[I" ∈ GW := gc_6 _ (List.mem_of_getElem? (i := 22) rfl)
theorem gw_263 : Cond.fieldLink RX5 31 "IcePilots$Reader" "ends" "[I" ∈ GW := gc_6 _ (List.mem_of_getElem? (i := 23) rfl)
theorem gw_264 : Cond.fieldLink RX5 34 "IcePilots$Reader" "acts" "[I" ∈ GW := gc_6 _ (List.mem_of_getElem? (i := 24) rfl)
theorem gw_265 : Cond.fieldLink RX5 37 "IcePilots$Reader" "numbers" "[I" ∈ GW := gc_6 _ (List.mem_of_getElem? (i := 25) rfl)
theorem gw_266 : Cond.fieldLink RX5 40 "IcePilots$Reader" "stepped" "I" ∈ GW := gc_6 _ (List.mem_of_getElem? (i := 26) rfl)
theorem gw_267 : Cond.fieldLink RX5 43 "IcePilots$Reader" "lines" "I" ∈ GW := gc_6 _ (List.mem_of_getElem? (i := 27) rfl)
theorem gw_268 : Cond.fieldLink RX5 46 "IcePilots$Reader" "fault" "I" ∈ GW := gc_6 _ (List.mem_of_getElem? (i := 28) rfl)
theorem gw_269 : Cond.fieldLink RX5 49 "IcePilots$Reader" "place" "I" ∈ GW := gc_6 _ (List.mem_of_getElem? (i := 29) rfl)
theorem gw_270 : Cond.code yX6_at cX6_at 2 (some .int) ∈ GW := gc_6 _ (List.mem_of_getElem? (i := 30) rfl)
theorem gw_271 : Cond.fieldLink RX6 15 "IcePilots$Tape" "length" "I" ∈ GW := gc_6 _ (List.mem_of_getElem? (i := 31) rfl)
theorem gw_272 : Cond.fieldLink RX6 9 "IcePilots$Tape" "bytes" "[I" ∈ GW := gc_6 _ (List.mem_of_getElem? (i := 32) rfl)
theorem gw_273 : Cond.code yX5_isLetter cX5_isLetter 1 (some .boolean) ∈ GW := gc_6 _ (List.mem_of_getElem? (i := 33) rfl)
theorem gw_274 : Cond.code yJ0_isLatin1_aae02 cJ0_isLatin1_aae02 1 (some .boolean) ∈ GW := gc_6 _ (List.mem_of_getElem? (i := 34) rfl)
theorem gw_275 : Cond.fieldLink RJ0 38 "java/lang/String" "COMPACT_STRINGS" "Z" ∈ GW := gc_6 _ (List.mem_of_getElem? (i := 35) rfl)
theorem gw_276 : Cond.fieldLink RJ0 15 "java/lang/String" "coder" "B" ∈ GW := gc_6 _ (List.mem_of_getElem? (i := 36) rfl)
theorem gw_277 : Cond.code yJ3_checkIndex_8e157 cJ3_checkIndex_8e157 3 (some .int) ∈ GW := gc_6 _ (List.mem_of_getElem? (i := 37) rfl)
theorem gw_278 : Cond.code yJ0_checkIndex_df160 cJ0_checkIndex_df160 2 none ∈ GW := gc_6 _ (List.mem_of_getElem? (i := 38) rfl)
theorem gw_279 : Cond.fieldLink RJ0 1053 "jdk/internal/util/Preconditions" "SIOOBE_FORMATTER" "Ljava/util/function/BiFunction;" ∈ GW := gc_6 _ (List.mem_of_getElem? (i := 39) rfl)
theorem gw_280 : Cond.methodLink RJ0 1059 yJ3_checkIndex_8e157 ∈ GW := gc_7 _ (List.mem_of_getElem? (i := 0) rfl)
theorem gw_281 : Cond.static yJ3_checkIndex_8e157 ∈ GW := gc_7 _ (List.mem_of_getElem? (i := 1) rfl)
theorem gw_282 : Cond.initialized RJ3 ∈ GW := gc_7 _ (List.mem_of_getElem? (i := 2) rfl)
theorem gw_283 : Cond.code yJ1_charAt_3b067 cJ1_charAt_3b067 2 (some .char) ∈ GW := gc_7 _ (List.mem_of_getElem? (i := 3) rfl)
theorem gw_284 : Cond.methodLink RJ1 9 yJ0_checkIndex_df160 ∈ GW := gc_7 _ (List.mem_of_getElem? (i := 4) rfl)
theorem gw_285 : Cond.static yJ0_checkIndex_df160 ∈ GW := gc_7 _ (List.mem_of_getElem? (i := 5) rfl)
theorem gw_286 : Cond.initialized RJ0 ∈ GW := gc_7 _ (List.mem_of_getElem? (i := 6) rfl)
theorem gw_287 : Cond.code yJ2_length_9d52b cJ2_length_9d52b 1 (some .int) ∈ GW := gc_7 _ (List.mem_of_getElem? (i := 7) rfl)
theorem gw_288 : Cond.code yJ2_checkIndex_2214a cJ2_checkIndex_2214a 2 none ∈ GW := gc_7 _ (List.mem_of_getElem? (i := 8) rfl)
theorem gw_289 : Cond.methodLink RJ2 48 yJ2_length_9d52b ∈ GW := gc_7 _ (List.mem_of_getElem? (i := 9) rfl)
theorem gw_290 : Cond.static yJ2_length_9d52b ∈ GW := gc_7 _ (List.mem_of_getElem? (i := 10) rfl)
theorem gw_291 : Cond.initialized RJ2 ∈ GW := gc_7 _ (List.mem_of_getElem? (i := 11) rfl)
theorem gw_292 : Cond.methodLink RJ2 414 yJ0_checkIndex_df160 ∈ GW := gc_7 _ (List.mem_of_getElem? (i := 12) rfl)
theorem gw_293 : Cond.code yJ2_getChar_3b067 cJ2_getChar_3b067 2 (some .char) ∈ GW := gc_7 _ (List.mem_of_getElem? (i := 13) rfl)
theorem gw_294 : Cond.fieldLink RJ2 44 "java/lang/StringUTF16" "$assertionsDisabled" "Z" ∈ GW := gc_7 _ (List.mem_of_getElem? (i := 14) rfl)
theorem gw_295 : Cond.fieldLink RJ2 59 "java/lang/StringUTF16" "HI_BYTE_SHIFT" "I" ∈ GW := gc_7 _ (List.mem_of_getElem? (i := 15) rfl)
theorem gw_296 : Cond.fieldLink RJ2 63 "java/lang/StringUTF16" "LO_BYTE_SHIFT" "I" ∈ GW := gc_7 _ (List.mem_of_getElem? (i := 16) rfl)
theorem gw_297 : Cond.code yJ2_charAt_3b067 cJ2_charAt_3b067 2 (some .char) ∈ GW := gc_7 _ (List.mem_of_getElem? (i := 17) rfl)
theorem gw_298 : Cond.methodLink RJ2 67 yJ2_checkIndex_2214a ∈ GW := gc_7 _ (List.mem_of_getElem? (i := 18) rfl)
theorem gw_299 : Cond.static yJ2_checkIndex_2214a ∈ GW := gc_7 _ (List.mem_of_getElem? (i := 19) rfl)
theorem gw_300 : Cond.methodLink RJ2 71 yJ2_getChar_3b067 ∈ GW := gc_7 _ (List.mem_of_getElem? (i := 20) rfl)
theorem gw_301 : Cond.static yJ2_getChar_3b067 ∈ GW := gc_7 _ (List.mem_of_getElem? (i := 21) rfl)
theorem gw_302 : Cond.fieldLink RJ0 9 "java/lang/String" "value" "[B" ∈ GW := gc_7 _ (List.mem_of_getElem? (i := 22) rfl)
theorem gw_303 : Cond.methodLink RJ0 492 yJ0_isLatin1_aae02 ∈ GW := gc_7 _ (List.mem_of_getElem? (i := 23) rfl)
theorem gw_304 : Cond.instanceMethod yJ0_isLatin1_aae02 ∈ GW := gc_7 _ (List.mem_of_getElem? (i := 24) rfl)
theorem gw_305 : Cond.selects RJ0 yJ0_isLatin1_aae02 yJ0_isLatin1_aae02 ∈ GW := gc_7 _ (List.mem_of_getElem? (i := 25) rfl)
theorem gw_306 : Cond.methodLink RJ0 495 yJ1_charAt_3b067 ∈ GW := gc_7 _ (List.mem_of_getElem? (i := 26) rfl)
theorem gw_307 : Cond.static yJ1_charAt_3b067 ∈ GW := gc_7 _ (List.mem_of_getElem? (i := 27) rfl)
theorem gw_308 : Cond.initialized RJ1 ∈ GW := gc_7 _ (List.mem_of_getElem? (i := 28) rfl)
theorem gw_309 : Cond.methodLink RJ0 498 yJ2_charAt_3b067 ∈ GW := gc_7 _ (List.mem_of_getElem? (i := 29) rfl)
theorem gw_310 : Cond.static yJ2_charAt_3b067 ∈ GW := gc_7 _ (List.mem_of_getElem? (i := 30) rfl)
theorem gw_311 : Cond.code yJ0_charAt_5068e cJ0_charAt_5068e 2 (some .char) ∈ GW := gc_7 _ (List.mem_of_getElem? (i := 31) rfl)
theorem gw_312 : Cond.methodLink RX9 15 yX6_at ∈ GW := gc_7 _ (List.mem_of_getElem? (i := 32) rfl)
theorem gw_313 : Cond.instanceMethod yX6_at ∈ GW := gc_7 _ (List.mem_of_getElem? (i := 33) rfl)
theorem gw_314 : Cond.selects RX6 yX6_at yX6_at ∈ GW := gc_7 _ (List.mem_of_getElem? (i := 34) rfl)
theorem gw_315 : Cond.initialized RX6 ∈ GW := gc_7 _ (List.mem_of_getElem? (i := 35) rfl)
theorem gw_316 : Cond.methodLink RX9 23 yJ0_charAt_5068e ∈ GW := gc_7 _ (List.mem_of_getElem? (i := 36) rfl)
theorem gw_317 : Cond.instanceMethod yJ0_charAt_5068e ∈ GW := gc_7 _ (List.mem_of_getElem? (i := 37) rfl)
theorem gw_318 : Cond.selects RJ0 yJ0_charAt_5068e yJ0_charAt_5068e ∈ GW := gc_7 _ (List.mem_of_getElem? (i := 38) rfl)
theorem gw_319 : Cond.code yX9_stands cX9_stands 6 (some .boolean) ∈ GW := gc_7 _ (List.mem_of_getElem? (i := 39) rfl)
theorem gw_320 : Cond.methodLink RX9 11 yX9_stands ∈ GW := gc_8 _ (List.mem_of_getElem? (i := 0) rfl)
theorem gw_321 : Cond.static yX9_stands ∈ GW := gc_8 _ (List.mem_of_getElem? (i := 1) rfl)
theorem gw_322 : Cond.initialized RX9 ∈ GW := gc_8 _ (List.mem_of_getElem? (i := 2) rfl)
theorem gw_323 : Cond.code yX9_find cX9_find 4 (some .int) ∈ GW := gc_8 _ (List.mem_of_getElem? (i := 3) rfl)
theorem gw_324 : Cond.code yX5_addToken cX5_addToken 4 none ∈ GW := gc_8 _ (List.mem_of_getElem? (i := 4) rfl)
theorem gw_325 : Cond.fieldLink RX5 84 "IcePilots$Tape" "length" "I" ∈ GW := gc_8 _ (List.mem_of_getElem? (i := 5) rfl)
theorem gw_326 : Cond.methodLink RX5 89 yX6_at ∈ GW := gc_8 _ (List.mem_of_getElem? (i := 6) rfl)
theorem gw_327 : Cond.methodLink RX5 92 yX5_isLetter ∈ GW := gc_8 _ (List.mem_of_getElem? (i := 7) rfl)
theorem gw_328 : Cond.static yX5_isLetter ∈ GW := gc_8 _ (List.mem_of_getElem? (i := 8) rfl)
theorem gw_329 : Cond.initialized RX5 ∈ GW := gc_8 _ (List.mem_of_getElem? (i := 9) rfl)
theorem gw_330 : Cond.methodLink RX5 113 yX9_find ∈ GW := gc_8 _ (List.mem_of_getElem? (i := 10) rfl)
theorem gw_331 : Cond.static yX9_find ∈ GW := gc_8 _ (List.mem_of_getElem? (i := 11) rfl)
theorem gw_332 : Cond.methodLink RX5 109 yX5_addToken ∈ GW := gc_8 _ (List.mem_of_getElem? (i := 12) rfl)
theorem gw_333 : Cond.instanceMethod yX5_addToken ∈ GW := gc_8 _ (List.mem_of_getElem? (i := 13) rfl)
theorem gw_334 : Cond.selects RX5 yX5_addToken yX5_addToken ∈ GW := gc_8 _ (List.mem_of_getElem? (i := 14) rfl)
theorem gw_335 : Cond.code yX5_scanWord cX5_scanWord 5 (some .int) ∈ GW := gc_8 _ (List.mem_of_getElem? (i := 15) rfl)
theorem gw_336 : Cond.code yX5_isDigit cX5_isDigit 1 (some .boolean) ∈ GW := gc_8 _ (List.mem_of_getElem? (i := 16) rfl)
theorem gw_337 : Cond.code yX5_scanNumber cX5_scanNumber 5 (some .int) ∈ GW := gc_8 _ (List.mem_of_getElem? (i := 17) rfl)
theorem gw_338 : Cond.methodLink RX5 100 yX5_isDigit ∈ GW := gc_8 _ (List.mem_of_getElem? (i := 18) rfl)
theorem gw_339 : Cond.static yX5_isDigit ∈ GW := gc_8 _ (List.mem_of_getElem? (i := 19) rfl)
theorem gw_340 : Cond.code yX5_isComparison cX5_isComparison 1 (some .boolean) ∈ GW := gc_8 _ (List.mem_of_getElem? (i := 20) rfl)
theorem gw_341 : Cond.code yX5_isSign cX5_isSign 1 (some .boolean) ∈ GW := gc_8 _ (List.mem_of_getElem? (i := 21) rfl)
theorem gw_342 : Cond.methodLink RX5 119 yX5_isComparison ∈ GW := gc_8 _ (List.mem_of_getElem? (i := 22) rfl)
theorem gw_343 : Cond.static yX5_isComparison ∈ GW := gc_8 _ (List.mem_of_getElem? (i := 23) rfl)
theorem gw_344 : Cond.methodLink RX5 96 yX5_scanWord ∈ GW := gc_8 _ (List.mem_of_getElem? (i := 24) rfl)
theorem gw_345 : Cond.instanceMethod yX5_scanWord ∈ GW := gc_8 _ (List.mem_of_getElem? (i := 25) rfl)
theorem gw_346 : Cond.selects RX5 yX5_scanWord yX5_scanWord ∈ GW := gc_8 _ (List.mem_of_getElem? (i := 26) rfl)
theorem gw_347 : Cond.methodLink RX5 103 yX5_scanNumber ∈ GW := gc_8 _ (List.mem_of_getElem? (i := 27) rfl)
theorem gw_348 : Cond.instanceMethod yX5_scanNumber ∈ GW := gc_8 _ (List.mem_of_getElem? (i := 28) rfl)
theorem gw_349 : Cond.selects RX5 yX5_scanNumber yX5_scanNumber ∈ GW := gc_8 _ (List.mem_of_getElem? (i := 29) rfl)
theorem gw_350 : Cond.methodLink RX5 106 yX5_isSign ∈ GW := gc_8 _ (List.mem_of_getElem? (i := 30) rfl)
theorem gw_351 : Cond.static yX5_isSign ∈ GW := gc_8 _ (List.mem_of_getElem? (i := 31) rfl)
theorem gw_352 : Cond.code yX5_scan cX5_scan 5 none ∈ GW := gc_8 _ (List.mem_of_getElem? (i := 32) rfl)
theorem gw_353 : Cond.code yX5_token cX5_token 1 (some .int) ∈ GW := gc_8 _ (List.mem_of_getElem? (i := 33) rfl)
theorem gw_354 : Cond.code yX5_placeHere cX5_placeHere 1 (some .int) ∈ GW := gc_8 _ (List.mem_of_getElem? (i := 34) rfl)
theorem gw_355 : Cond.code yX5_take cX5_take 2 (some .boolean) ∈ GW := gc_8 _ (List.mem_of_getElem? (i := 35) rfl)
theorem gw_356 : Cond.code yX5_addStep cX5_addStep 2 none ∈ GW := gc_8 _ (List.mem_of_getElem? (i := 36) rfl)
theorem gw_357 : Cond.code yX9_isWhat cX9_isWhat 1 (some .boolean) ∈ GW := gc_8 _ (List.mem_of_getElem? (i := 37) rfl)
theorem gw_358 : Cond.code yX5_takeNumber cX5_takeNumber 1 (some .int) ∈ GW := gc_8 _ (List.mem_of_getElem? (i := 38) rfl)
theorem gw_359 : Cond.methodLink RX5 56 yX5_token ∈ GW := gc_8 _ (List.mem_of_getElem? (i := 39) rfl)
theorem gw_360 : Cond.instanceMethod yX5_token ∈ GW := gc_9 _ (List.mem_of_getElem? (i := 0) rfl)
theorem gw_361 : Cond.selects RX5 yX5_token yX5_token ∈ GW := gc_9 _ (List.mem_of_getElem? (i := 1) rfl)
theorem gw_362 : Cond.methodLink RX5 151 yX9_isWhat ∈ GW := gc_9 _ (List.mem_of_getElem? (i := 2) rfl)
theorem gw_363 : Cond.static yX9_isWhat ∈ GW := gc_9 _ (List.mem_of_getElem? (i := 3) rfl)
theorem gw_364 : Cond.methodLink RX5 131 yX5_takeNumber ∈ GW := gc_9 _ (List.mem_of_getElem? (i := 4) rfl)
theorem gw_365 : Cond.instanceMethod yX5_takeNumber ∈ GW := gc_9 _ (List.mem_of_getElem? (i := 5) rfl)
theorem gw_366 : Cond.selects RX5 yX5_takeNumber yX5_takeNumber ∈ GW := gc_9 _ (List.mem_of_getElem? (i := 6) rfl)
theorem gw_367 : Cond.methodLink RX5 154 yX4_comparison ∈ GW := gc_9 _ (List.mem_of_getElem? (i := 7) rfl)
theorem gw_368 : Cond.static yX4_comparison ∈ GW := gc_9 _ (List.mem_of_getElem? (i := 8) rfl)
theorem gw_369 : Cond.methodLink RX5 141 yX5_addStep ∈ GW := gc_9 _ (List.mem_of_getElem? (i := 9) rfl)
theorem gw_370 : Cond.instanceMethod yX5_addStep ∈ GW := gc_9 _ (List.mem_of_getElem? (i := 10) rfl)
theorem gw_371 : Cond.selects RX5 yX5_addStep yX5_addStep ∈ GW := gc_9 _ (List.mem_of_getElem? (i := 11) rfl)
theorem gw_372 : Cond.code yX5_readComparison cX5_readComparison 4 (some .boolean) ∈ GW := gc_9 _ (List.mem_of_getElem? (i := 12) rfl)
theorem gw_373 : Cond.methodLink RX5 145 yX5_readOne ∈ GW := gc_9 _ (List.mem_of_getElem? (i := 13) rfl)
theorem gw_374 : Cond.instanceMethod yX5_readOne ∈ GW := gc_9 _ (List.mem_of_getElem? (i := 14) rfl)
theorem gw_375 : Cond.selects RX5 yX5_readOne yX5_readOne ∈ GW := gc_9 _ (List.mem_of_getElem? (i := 15) rfl)
theorem gw_376 : Cond.methodLink RX5 122 yX5_take ∈ GW := gc_9 _ (List.mem_of_getElem? (i := 16) rfl)
theorem gw_377 : Cond.instanceMethod yX5_take ∈ GW := gc_9 _ (List.mem_of_getElem? (i := 17) rfl)
theorem gw_378 : Cond.selects RX5 yX5_take yX5_take ∈ GW := gc_9 _ (List.mem_of_getElem? (i := 18) rfl)
theorem gw_379 : Cond.code yX5_readOne cX5_readOne 4 (some .boolean) ∈ GW := gc_9 _ (List.mem_of_getElem? (i := 19) rfl)
theorem gw_380 : Cond.methodLink RX5 125 yX5_readTerm ∈ GW := gc_9 _ (List.mem_of_getElem? (i := 20) rfl)
theorem gw_381 : Cond.instanceMethod yX5_readTerm ∈ GW := gc_9 _ (List.mem_of_getElem? (i := 21) rfl)
theorem gw_382 : Cond.selects RX5 yX5_readTerm yX5_readTerm ∈ GW := gc_9 _ (List.mem_of_getElem? (i := 22) rfl)
theorem gw_383 : Cond.methodLink RX5 148 yX5_readComparison ∈ GW := gc_9 _ (List.mem_of_getElem? (i := 23) rfl)
theorem gw_384 : Cond.instanceMethod yX5_readComparison ∈ GW := gc_9 _ (List.mem_of_getElem? (i := 24) rfl)
theorem gw_385 : Cond.selects RX5 yX5_readComparison yX5_readComparison ∈ GW := gc_9 _ (List.mem_of_getElem? (i := 25) rfl)
theorem gw_386 : Cond.code yX5_readTerm cX5_readTerm 3 (some .boolean) ∈ GW := gc_9 _ (List.mem_of_getElem? (i := 26) rfl)
theorem gw_387 : Cond.methodLink RX5 138 yX5_readBoth ∈ GW := gc_9 _ (List.mem_of_getElem? (i := 27) rfl)
theorem gw_388 : Cond.instanceMethod yX5_readBoth ∈ GW := gc_9 _ (List.mem_of_getElem? (i := 28) rfl)
theorem gw_389 : Cond.selects RX5 yX5_readBoth yX5_readBoth ∈ GW := gc_9 _ (List.mem_of_getElem? (i := 29) rfl)
theorem gw_390 : Cond.code yX5_readBoth cX5_readBoth 3 (some .boolean) ∈ GW := gc_9 _ (List.mem_of_getElem? (i := 30) rfl)
theorem gw_391 : Cond.code yX9_isAct cX9_isAct 1 (some .boolean) ∈ GW := gc_9 _ (List.mem_of_getElem? (i := 31) rfl)
theorem gw_392 : Cond.code yX5_keepLine cX5_keepLine 3 none ∈ GW := gc_9 _ (List.mem_of_getElem? (i := 32) rfl)
theorem gw_393 : Cond.methodLink RX5 128 yX9_isAct ∈ GW := gc_9 _ (List.mem_of_getElem? (i := 33) rfl)
theorem gw_394 : Cond.static yX9_isAct ∈ GW := gc_9 _ (List.mem_of_getElem? (i := 34) rfl)
theorem gw_395 : Cond.methodLink RX5 134 yX5_keepLine ∈ GW := gc_9 _ (List.mem_of_getElem? (i := 35) rfl)
theorem gw_396 : Cond.instanceMethod yX5_keepLine ∈ GW := gc_9 _ (List.mem_of_getElem? (i := 36) rfl)
theorem gw_397 : Cond.selects RX5 yX5_keepLine yX5_keepLine ∈ GW := gc_9 _ (List.mem_of_getElem? (i := 37) rfl)
theorem gw_398 : Cond.code yX5_readLine cX5_readLine 3 (some .boolean) ∈ GW := gc_9 _ (List.mem_of_getElem? (i := 38) rfl)
theorem gw_399 : Cond.methodLink RX5 52 yX5_scan ∈ GW := gc_9 _ (List.mem_of_getElem? (i := 39) rfl)
theorem gw_400 : Cond.instanceMethod yX5_scan ∈ GW := gc_10 _ (List.mem_of_getElem? (i := 0) rfl)
theorem gw_401 : Cond.selects RX5 yX5_scan yX5_scan ∈ GW := gc_10 _ (List.mem_of_getElem? (i := 1) rfl)
theorem gw_402 : Cond.methodLink RX5 60 yX5_placeHere ∈ GW := gc_10 _ (List.mem_of_getElem? (i := 2) rfl)
theorem gw_403 : Cond.instanceMethod yX5_placeHere ∈ GW := gc_10 _ (List.mem_of_getElem? (i := 3) rfl)
theorem gw_404 : Cond.selects RX5 yX5_placeHere yX5_placeHere ∈ GW := gc_10 _ (List.mem_of_getElem? (i := 4) rfl)
theorem gw_405 : Cond.methodLink RX5 63 yX5_readLine ∈ GW := gc_10 _ (List.mem_of_getElem? (i := 5) rfl)
theorem gw_406 : Cond.instanceMethod yX5_readLine ∈ GW := gc_10 _ (List.mem_of_getElem? (i := 6) rfl)
theorem gw_407 : Cond.selects RX5 yX5_readLine yX5_readLine ∈ GW := gc_10 _ (List.mem_of_getElem? (i := 7) rfl)
theorem gw_408 : Cond.code yX5_read cX5_read 4 none ∈ GW := gc_10 _ (List.mem_of_getElem? (i := 8) rfl)
theorem gw_409 : Cond.code yJ7_copyOf_59c91 cJ7_copyOf_59c91 3 (some (.array .int)) ∈ GW := gc_10 _ (List.mem_of_getElem? (i := 9) rfl)
theorem gw_410 : Cond.methodLink RJ7 316 ⟨"[I", "clone", "()Ljava/lang/Object;"⟩ ∈ GW := gc_10 _ (List.mem_of_getElem? (i := 10) rfl)
theorem gw_411 : Cond.sameMethod "[I" "java/lang/Object" "clone" "()Ljava/lang/Object;" ∈ GW := gc_10 _ (List.mem_of_getElem? (i := 11) rfl)
theorem gw_412 : Cond.native ⟨"java/lang/Object", "clone", "()Ljava/lang/Object;"⟩ ∈ GW := gc_10 _ (List.mem_of_getElem? (i := 12) rfl)
theorem gw_413 : Cond.instanceMethod ⟨"java/lang/Object", "clone", "()Ljava/lang/Object;"⟩ ∈ GW := gc_10 _ (List.mem_of_getElem? (i := 13) rfl)
theorem gw_414 : Cond.selects "[I" ⟨"[I", "clone", "()Ljava/lang/Object;"⟩ ⟨"java/lang/Object", "clone", "()Ljava/lang/Object;"⟩ ∈ GW := gc_10 _ (List.mem_of_getElem? (i := 14) rfl)
theorem gw_415 : Cond.classLink RJ7 317 "[I" ∈ GW := gc_10 _ (List.mem_of_getElem? (i := 15) rfl)
theorem gw_416 : Cond.methodLink RJ7 304 Lib.Math.min.name ∈ GW := gc_10 _ (List.mem_of_getElem? (i := 16) rfl)
theorem gw_417 : Cond.methodLink RJ7 150 arraycopyName ∈ GW := gc_10 _ (List.mem_of_getElem? (i := 17) rfl)
theorem gw_418 : Cond.methodLink RX5 67 Lib.Math.min.name ∈ GW := gc_10 _ (List.mem_of_getElem? (i := 18) rfl)
theorem gw_419 : Cond.classLink RX5 73 RX4 ∈ GW := gc_10 _ (List.mem_of_getElem? (i := 19) rfl)
theorem gw_420 : Cond.instantiable RX4 4 ∈ GW := gc_10 _ (List.mem_of_getElem? (i := 20) rfl)
theorem gw_421 : Cond.methodLink RX5 75 yJ7_copyOf_59c91 ∈ GW := gc_10 _ (List.mem_of_getElem? (i := 21) rfl)
theorem gw_422 : Cond.static yJ7_copyOf_59c91 ∈ GW := gc_10 _ (List.mem_of_getElem? (i := 22) rfl)
theorem gw_423 : Cond.methodLink RX5 81 yX4_init ∈ GW := gc_10 _ (List.mem_of_getElem? (i := 23) rfl)
theorem gw_424 : Cond.instanceMethod yX4_init ∈ GW := gc_10 _ (List.mem_of_getElem? (i := 24) rfl)
theorem gw_425 : Cond.code yX5_result cX5_result 2 (some (.object "IcePilots$Orders")) ∈ GW := gc_10 _ (List.mem_of_getElem? (i := 25) rfl)
theorem gw_426 : Cond.code yX6_init cX6_init 1 none ∈ GW := gc_10 _ (List.mem_of_getElem? (i := 26) rfl)
theorem gw_427 : Cond.methodLink RX6 3 objectInit ∈ GW := gc_10 _ (List.mem_of_getElem? (i := 27) rfl)
theorem gw_428 : Cond.code yX6_append cX6_append 3 none ∈ GW := gc_10 _ (List.mem_of_getElem? (i := 28) rfl)
theorem gw_429 : Cond.code yX6_copy cX6_copy 2 none ∈ GW := gc_10 _ (List.mem_of_getElem? (i := 29) rfl)
theorem gw_430 : Cond.methodLink RX6 19 arraycopyName ∈ GW := gc_10 _ (List.mem_of_getElem? (i := 30) rfl)
theorem gw_431 : Cond.code yX7_init cX7_init 1 none ∈ GW := gc_10 _ (List.mem_of_getElem? (i := 31) rfl)
theorem gw_432 : Cond.methodLink RX7 3 objectInit ∈ GW := gc_10 _ (List.mem_of_getElem? (i := 32) rfl)
theorem gw_433 : Cond.code yX7_copy cX7_copy 2 none ∈ GW := gc_10 _ (List.mem_of_getElem? (i := 33) rfl)
theorem gw_434 : Cond.methodLink RX7 27 arraycopyName ∈ GW := gc_10 _ (List.mem_of_getElem? (i := 34) rfl)
theorem gw_435 : Cond.methodLink RX8 3 objectInit ∈ GW := gc_10 _ (List.mem_of_getElem? (i := 35) rfl)
theorem gw_436 : Cond.classLink RX8 9 RX2 ∈ GW := gc_10 _ (List.mem_of_getElem? (i := 36) rfl)
theorem gw_437 : Cond.instantiable RX2 4 ∈ GW := gc_10 _ (List.mem_of_getElem? (i := 37) rfl)
theorem gw_438 : Cond.classLink RX8 11 RX7 ∈ GW := gc_10 _ (List.mem_of_getElem? (i := 38) rfl)
theorem gw_439 : Cond.instantiable RX7 3 ∈ GW := gc_10 _ (List.mem_of_getElem? (i := 39) rfl)
theorem gw_440 : Cond.fieldLink RX8 17 "IcePilots$Whole" "gulf" "LIcePilots$Gulf;" ∈ GW := gc_11 _ (List.mem_of_getElem? (i := 0) rfl)
theorem gw_441 : Cond.classLink RX8 23 RX6 ∈ GW := gc_11 _ (List.mem_of_getElem? (i := 1) rfl)
theorem gw_442 : Cond.instantiable RX6 2 ∈ GW := gc_11 _ (List.mem_of_getElem? (i := 2) rfl)
theorem gw_443 : Cond.fieldLink RX8 26 "IcePilots$Whole" "tape" "LIcePilots$Tape;" ∈ GW := gc_11 _ (List.mem_of_getElem? (i := 3) rfl)
theorem gw_444 : Cond.classLink RX8 30 RX0 ∈ GW := gc_11 _ (List.mem_of_getElem? (i := 4) rfl)
theorem gw_445 : Cond.instantiable RX0 7 ∈ GW := gc_11 _ (List.mem_of_getElem? (i := 5) rfl)
theorem gw_446 : Cond.fieldLink RX8 33 "IcePilots$Whole" "convoy" "LIcePilots$Convoy;" ∈ GW := gc_11 _ (List.mem_of_getElem? (i := 6) rfl)
theorem gw_447 : Cond.fieldLink RX8 37 "IcePilots$Whole" "fault" "I" ∈ GW := gc_11 _ (List.mem_of_getElem? (i := 7) rfl)
theorem gw_448 : Cond.fieldLink RX8 41 "IcePilots$Whole" "place" "I" ∈ GW := gc_11 _ (List.mem_of_getElem? (i := 8) rfl)
theorem gw_449 : Cond.instanceMethod yX7_init ∈ GW := gc_11 _ (List.mem_of_getElem? (i := 9) rfl)
theorem gw_450 : Cond.methodLink RX8 14 yX2_init ∈ GW := gc_11 _ (List.mem_of_getElem? (i := 10) rfl)
theorem gw_451 : Cond.instanceMethod yX2_init ∈ GW := gc_11 _ (List.mem_of_getElem? (i := 11) rfl)
theorem gw_452 : Cond.instanceMethod yX6_init ∈ GW := gc_11 _ (List.mem_of_getElem? (i := 12) rfl)
theorem gw_453 : Cond.instanceMethod yX0_init ∈ GW := gc_11 _ (List.mem_of_getElem? (i := 13) rfl)
theorem gw_454 : Cond.code yX8_init cX8_init 1 none ∈ GW := gc_11 _ (List.mem_of_getElem? (i := 14) rfl)
theorem gw_455 : Cond.fieldLink RX8 48 "IcePilots$Gulf" "weather" "LIcePilots$Weather;" ∈ GW := gc_11 _ (List.mem_of_getElem? (i := 15) rfl)
theorem gw_456 : Cond.methodLink RX8 44 yX2_copyAllButWeather ∈ GW := gc_11 _ (List.mem_of_getElem? (i := 16) rfl)
theorem gw_457 : Cond.instanceMethod yX2_copyAllButWeather ∈ GW := gc_11 _ (List.mem_of_getElem? (i := 17) rfl)
theorem gw_458 : Cond.selects RX2 yX2_copyAllButWeather yX2_copyAllButWeather ∈ GW := gc_11 _ (List.mem_of_getElem? (i := 18) rfl)
theorem gw_459 : Cond.methodLink RX8 52 yX7_copy ∈ GW := gc_11 _ (List.mem_of_getElem? (i := 19) rfl)
theorem gw_460 : Cond.instanceMethod yX7_copy ∈ GW := gc_11 _ (List.mem_of_getElem? (i := 20) rfl)
theorem gw_461 : Cond.selects RX7 yX7_copy yX7_copy ∈ GW := gc_11 _ (List.mem_of_getElem? (i := 21) rfl)
theorem gw_462 : Cond.methodLink RX8 55 yX6_copy ∈ GW := gc_11 _ (List.mem_of_getElem? (i := 22) rfl)
theorem gw_463 : Cond.instanceMethod yX6_copy ∈ GW := gc_11 _ (List.mem_of_getElem? (i := 23) rfl)
theorem gw_464 : Cond.selects RX6 yX6_copy yX6_copy ∈ GW := gc_11 _ (List.mem_of_getElem? (i := 24) rfl)
theorem gw_465 : Cond.methodLink RX8 58 yX0_copy ∈ GW := gc_11 _ (List.mem_of_getElem? (i := 25) rfl)
theorem gw_466 : Cond.instanceMethod yX0_copy ∈ GW := gc_11 _ (List.mem_of_getElem? (i := 26) rfl)
theorem gw_467 : Cond.selects RX0 yX0_copy yX0_copy ∈ GW := gc_11 _ (List.mem_of_getElem? (i := 27) rfl)
theorem gw_468 : Cond.code yX8_copy cX8_copy 2 none ∈ GW := gc_11 _ (List.mem_of_getElem? (i := 28) rfl)
theorem gw_469 : Cond.methodLink RX10 1 objectInit ∈ GW := gc_11 _ (List.mem_of_getElem? (i := 29) rfl)
theorem gw_470 : Cond.classLink RX10 7 RX8 ∈ GW := gc_11 _ (List.mem_of_getElem? (i := 30) rfl)
theorem gw_471 : Cond.instantiable RX8 5 ∈ GW := gc_11 _ (List.mem_of_getElem? (i := 31) rfl)
theorem gw_472 : Cond.initialized RX8 ∈ GW := gc_11 _ (List.mem_of_getElem? (i := 32) rfl)
theorem gw_473 : Cond.fieldLink RX10 10 "IcePilots" "now" "LIcePilots$Whole;" ∈ GW := gc_11 _ (List.mem_of_getElem? (i := 33) rfl)
theorem gw_474 : Cond.fieldLink RX10 16 "IcePilots" "images" "[LIcePilots$Whole;" ∈ GW := gc_11 _ (List.mem_of_getElem? (i := 34) rfl)
theorem gw_475 : Cond.classLink RX10 20 RX2 ∈ GW := gc_11 _ (List.mem_of_getElem? (i := 35) rfl)
theorem gw_476 : Cond.fieldLink RX10 22 "IcePilots$Whole" "gulf" "LIcePilots$Gulf;" ∈ GW := gc_11 _ (List.mem_of_getElem? (i := 36) rfl)
theorem gw_477 : Cond.fieldLink RX10 26 "IcePilots$Gulf" "weather" "LIcePilots$Weather;" ∈ GW := gc_11 _ (List.mem_of_getElem? (i := 37) rfl)
theorem gw_478 : Cond.fieldLink RX10 33 "IcePilots" "foretold" "LIcePilots$Gulf;" ∈ GW := gc_11 _ (List.mem_of_getElem? (i := 38) rfl)
theorem gw_479 : Cond.classLink RX10 36 RX5 ∈ GW := gc_11 _ (List.mem_of_getElem? (i := 39) rfl)
theorem gw_480 : Cond.instantiable RX5 13 ∈ GW := gc_12 _ (List.mem_of_getElem? (i := 0) rfl)
theorem gw_481 : Cond.fieldLink RX10 39 "IcePilots" "reader" "LIcePilots$Reader;" ∈ GW := gc_12 _ (List.mem_of_getElem? (i := 1) rfl)
theorem gw_482 : Cond.instanceMethod yX8_init ∈ GW := gc_12 _ (List.mem_of_getElem? (i := 2) rfl)
theorem gw_483 : Cond.methodLink RX10 30 yX2_init ∈ GW := gc_12 _ (List.mem_of_getElem? (i := 3) rfl)
theorem gw_484 : Cond.instanceMethod yX5_init ∈ GW := gc_12 _ (List.mem_of_getElem? (i := 4) rfl)
theorem gw_485 : Cond.methodLink RX10 43 yX2_begin ∈ GW := gc_12 _ (List.mem_of_getElem? (i := 5) rfl)
theorem gw_486 : Cond.instanceMethod yX2_begin ∈ GW := gc_12 _ (List.mem_of_getElem? (i := 6) rfl)
theorem gw_487 : Cond.selects RX2 yX2_begin yX2_begin ∈ GW := gc_12 _ (List.mem_of_getElem? (i := 7) rfl)
theorem gw_488 : Cond.code yX10_init cX10_init 1 none ∈ GW := gc_12 _ (List.mem_of_getElem? (i := 8) rfl)
theorem gw_489 : Cond.code yX10_within cX10_within 3 (some .boolean) ∈ GW := gc_12 _ (List.mem_of_getElem? (i := 9) rfl)
theorem gw_490 : Cond.methodLink RX10 47 yX10_within ∈ GW := gc_12 _ (List.mem_of_getElem? (i := 10) rfl)
theorem gw_491 : Cond.static yX10_within ∈ GW := gc_12 _ (List.mem_of_getElem? (i := 11) rfl)
theorem gw_492 : Cond.initialized RX10 ∈ GW := gc_12 _ (List.mem_of_getElem? (i := 12) rfl)
theorem gw_493 : Cond.code yX10_gulf cX10_gulf 3 (some .boolean) ∈ GW := gc_12 _ (List.mem_of_getElem? (i := 13) rfl)
theorem gw_494 : Cond.fieldLink RX10 51 "IcePilots$Gulf" "ice" "LIcePilots$Ice;" ∈ GW := gc_12 _ (List.mem_of_getElem? (i := 14) rfl)
theorem gw_495 : Cond.fieldLink RX10 61 "IcePilots$Ice" "sea" "[Z" ∈ GW := gc_12 _ (List.mem_of_getElem? (i := 15) rfl)
theorem gw_496 : Cond.fieldLink RX10 65 "IcePilots$Gulf" "fleet" "LIcePilots$Fleet;" ∈ GW := gc_12 _ (List.mem_of_getElem? (i := 16) rfl)
theorem gw_497 : Cond.fieldLink RX10 75 "IcePilots$Ice" "laid" "I" ∈ GW := gc_12 _ (List.mem_of_getElem? (i := 17) rfl)
theorem gw_498 : Cond.fieldLink RX10 79 "IcePilots$Ice" "level" "[I" ∈ GW := gc_12 _ (List.mem_of_getElem? (i := 18) rfl)
theorem gw_499 : Cond.fieldLink RX10 83 "IcePilots$Ice" "ridged" "[I" ∈ GW := gc_12 _ (List.mem_of_getElem? (i := 19) rfl)
theorem gw_500 : Cond.methodLink RX10 55 yX3_find ∈ GW := gc_12 _ (List.mem_of_getElem? (i := 20) rfl)
theorem gw_501 : Cond.methodLink RX10 69 yX1_shipIn ∈ GW := gc_12 _ (List.mem_of_getElem? (i := 21) rfl)
theorem gw_502 : Cond.methodLink RX10 86 yX3_empty ∈ GW := gc_12 _ (List.mem_of_getElem? (i := 22) rfl)
theorem gw_503 : Cond.code yX10_land cX10_land 6 (some .boolean) ∈ GW := gc_12 _ (List.mem_of_getElem? (i := 23) rfl)
theorem gw_504 : Cond.code yX10_ice cX10_ice 8 (some .boolean) ∈ GW := gc_12 _ (List.mem_of_getElem? (i := 24) rfl)
theorem gw_505 : Cond.fieldLink RX10 94 "IcePilots$Ice" "fast" "[Z" ∈ GW := gc_12 _ (List.mem_of_getElem? (i := 25) rfl)
theorem gw_506 : Cond.methodLink RX10 90 yX3_lay ∈ GW := gc_12 _ (List.mem_of_getElem? (i := 26) rfl)
theorem gw_507 : Cond.instanceMethod yX3_lay ∈ GW := gc_12 _ (List.mem_of_getElem? (i := 27) rfl)
theorem gw_508 : Cond.selects RX3 yX3_lay yX3_lay ∈ GW := gc_12 _ (List.mem_of_getElem? (i := 28) rfl)
theorem gw_509 : Cond.code yX10_weather cX10_weather 6 (some .boolean) ∈ GW := gc_12 _ (List.mem_of_getElem? (i := 29) rfl)
theorem gw_510 : Cond.fieldLink RX10 97 "IcePilots$Gulf" "hour" "I" ∈ GW := gc_12 _ (List.mem_of_getElem? (i := 30) rfl)
theorem gw_511 : Cond.methodLink RX10 100 yX7_put ∈ GW := gc_12 _ (List.mem_of_getElem? (i := 31) rfl)
theorem gw_512 : Cond.methodLink RX10 106 yX1_join ∈ GW := gc_12 _ (List.mem_of_getElem? (i := 32) rfl)
theorem gw_513 : Cond.instanceMethod yX1_join ∈ GW := gc_12 _ (List.mem_of_getElem? (i := 33) rfl)
theorem gw_514 : Cond.selects RX1 yX1_join yX1_join ∈ GW := gc_12 _ (List.mem_of_getElem? (i := 34) rfl)
theorem gw_515 : Cond.code yX10_ship cX10_ship 7 (some .int) ∈ GW := gc_12 _ (List.mem_of_getElem? (i := 35) rfl)
theorem gw_516 : Cond.code yX10_feed cX10_feed 7 (some .int) ∈ GW := gc_12 _ (List.mem_of_getElem? (i := 36) rfl)
theorem gw_517 : Cond.fieldLink RX10 110 "IcePilots$Whole" "tape" "LIcePilots$Tape;" ∈ GW := gc_12 _ (List.mem_of_getElem? (i := 37) rfl)
theorem gw_518 : Cond.fieldLink RX10 114 "IcePilots$Tape" "length" "I" ∈ GW := gc_12 _ (List.mem_of_getElem? (i := 38) rfl)
theorem gw_519 : Cond.methodLink RX10 119 yX6_append ∈ GW := gc_12 _ (List.mem_of_getElem? (i := 39) rfl)
theorem gw_520 : Cond.instanceMethod yX6_append ∈ GW := gc_13 _ (List.mem_of_getElem? (i := 0) rfl)
theorem gw_521 : Cond.selects RX6 yX6_append yX6_append ∈ GW := gc_13 _ (List.mem_of_getElem? (i := 1) rfl)
theorem gw_522 : Cond.code yX10_end cX10_end 2 (some .int) ∈ GW := gc_13 _ (List.mem_of_getElem? (i := 2) rfl)
theorem gw_523 : Cond.fieldLink RX10 131 "IcePilots$Reader" "fault" "I" ∈ GW := gc_13 _ (List.mem_of_getElem? (i := 3) rfl)
theorem gw_524 : Cond.fieldLink RX10 134 "IcePilots$Whole" "fault" "I" ∈ GW := gc_13 _ (List.mem_of_getElem? (i := 4) rfl)
theorem gw_525 : Cond.fieldLink RX10 135 "IcePilots$Reader" "place" "I" ∈ GW := gc_13 _ (List.mem_of_getElem? (i := 5) rfl)
theorem gw_526 : Cond.fieldLink RX10 138 "IcePilots$Whole" "place" "I" ∈ GW := gc_13 _ (List.mem_of_getElem? (i := 6) rfl)
theorem gw_527 : Cond.fieldLink RX10 139 "IcePilots$Fleet" "orders" "[LIcePilots$Orders;" ∈ GW := gc_13 _ (List.mem_of_getElem? (i := 7) rfl)
theorem gw_528 : Cond.fieldLink RX10 147 "IcePilots$Reader" "lines" "I" ∈ GW := gc_13 _ (List.mem_of_getElem? (i := 8) rfl)
theorem gw_529 : Cond.methodLink RX10 123 yX1_has ∈ GW := gc_13 _ (List.mem_of_getElem? (i := 9) rfl)
theorem gw_530 : Cond.instanceMethod yX1_has ∈ GW := gc_13 _ (List.mem_of_getElem? (i := 10) rfl)
theorem gw_531 : Cond.selects RX1 yX1_has yX1_has ∈ GW := gc_13 _ (List.mem_of_getElem? (i := 11) rfl)
theorem gw_532 : Cond.methodLink RX10 127 yX5_read ∈ GW := gc_13 _ (List.mem_of_getElem? (i := 12) rfl)
theorem gw_533 : Cond.instanceMethod yX5_read ∈ GW := gc_13 _ (List.mem_of_getElem? (i := 13) rfl)
theorem gw_534 : Cond.selects RX5 yX5_read yX5_read ∈ GW := gc_13 _ (List.mem_of_getElem? (i := 14) rfl)
theorem gw_535 : Cond.methodLink RX10 143 yX5_result ∈ GW := gc_13 _ (List.mem_of_getElem? (i := 15) rfl)
theorem gw_536 : Cond.instanceMethod yX5_result ∈ GW := gc_13 _ (List.mem_of_getElem? (i := 16) rfl)
theorem gw_537 : Cond.selects RX5 yX5_result yX5_result ∈ GW := gc_13 _ (List.mem_of_getElem? (i := 17) rfl)
theorem gw_538 : Cond.code yX10_orders cX10_orders 2 (some .int) ∈ GW := gc_13 _ (List.mem_of_getElem? (i := 18) rfl)
theorem gw_539 : Cond.code yX10_fault cX10_fault 2 (some .int) ∈ GW := gc_13 _ (List.mem_of_getElem? (i := 19) rfl)
theorem gw_540 : Cond.code yX10_call cX10_call 3 (some .boolean) ∈ GW := gc_13 _ (List.mem_of_getElem? (i := 20) rfl)
theorem gw_541 : Cond.fieldLink RX10 150 "IcePilots$Fleet" "told" "[I" ∈ GW := gc_13 _ (List.mem_of_getElem? (i := 21) rfl)
theorem gw_542 : Cond.code yX10_canPass cX10_canPass 2 (some .boolean) ∈ GW := gc_13 _ (List.mem_of_getElem? (i := 22) rfl)
theorem gw_543 : Cond.methodLink RX10 153 yX10_canPass ∈ GW := gc_13 _ (List.mem_of_getElem? (i := 23) rfl)
theorem gw_544 : Cond.instanceMethod yX10_canPass ∈ GW := gc_13 _ (List.mem_of_getElem? (i := 24) rfl)
theorem gw_545 : Cond.selects RX10 yX10_canPass yX10_canPass ∈ GW := gc_13 _ (List.mem_of_getElem? (i := 25) rfl)
theorem gw_546 : Cond.methodLink RX10 156 yX2_passHour ∈ GW := gc_13 _ (List.mem_of_getElem? (i := 26) rfl)
theorem gw_547 : Cond.instanceMethod yX2_passHour ∈ GW := gc_13 _ (List.mem_of_getElem? (i := 27) rfl)
theorem gw_548 : Cond.selects RX2 yX2_passHour yX2_passHour ∈ GW := gc_13 _ (List.mem_of_getElem? (i := 28) rfl)
theorem gw_549 : Cond.code yX10_hours cX10_hours 3 (some .int) ∈ GW := gc_13 _ (List.mem_of_getElem? (i := 29) rfl)
theorem gw_550 : Cond.code yX10_foretoldOfShip cX10_foretoldOfShip 4 (some .int) ∈ GW := gc_13 _ (List.mem_of_getElem? (i := 30) rfl)
theorem gw_551 : Cond.fieldLink RX10 185 "IcePilots$Fleet" "place" "[I" ∈ GW := gc_13 _ (List.mem_of_getElem? (i := 31) rfl)
theorem gw_552 : Cond.fieldLink RX10 182 "IcePilots$Fleet" "fuel" "[I" ∈ GW := gc_13 _ (List.mem_of_getElem? (i := 32) rfl)
theorem gw_553 : Cond.fieldLink RX10 190 "IcePilots$Fleet" "moved" "[I" ∈ GW := gc_13 _ (List.mem_of_getElem? (i := 33) rfl)
theorem gw_554 : Cond.methodLink RX10 159 yX2_copyAllButWeather ∈ GW := gc_13 _ (List.mem_of_getElem? (i := 34) rfl)
theorem gw_555 : Cond.methodLink RX10 163 yX10_foretoldOfShip ∈ GW := gc_13 _ (List.mem_of_getElem? (i := 35) rfl)
theorem gw_556 : Cond.instanceMethod yX10_foretoldOfShip ∈ GW := gc_13 _ (List.mem_of_getElem? (i := 36) rfl)
theorem gw_557 : Cond.selects RX10 yX10_foretoldOfShip yX10_foretoldOfShip ∈ GW := gc_13 _ (List.mem_of_getElem? (i := 37) rfl)
theorem gw_558 : Cond.methodLink RX10 166 yX3_allLevel ∈ GW := gc_13 _ (List.mem_of_getElem? (i := 38) rfl)
theorem gw_559 : Cond.instanceMethod yX3_allLevel ∈ GW := gc_13 _ (List.mem_of_getElem? (i := 39) rfl)
theorem gw_560 : Cond.selects RX3 yX3_allLevel yX3_allLevel ∈ GW := gc_14 _ (List.mem_of_getElem? (i := 0) rfl)
theorem gw_561 : Cond.methodLink RX10 170 yX3_allRidged ∈ GW := gc_14 _ (List.mem_of_getElem? (i := 1) rfl)
theorem gw_562 : Cond.instanceMethod yX3_allRidged ∈ GW := gc_14 _ (List.mem_of_getElem? (i := 2) rfl)
theorem gw_563 : Cond.selects RX3 yX3_allRidged yX3_allRidged ∈ GW := gc_14 _ (List.mem_of_getElem? (i := 3) rfl)
theorem gw_564 : Cond.code yX10_ahead cX10_ahead 6 (some .int) ∈ GW := gc_14 _ (List.mem_of_getElem? (i := 4) rfl)
theorem gw_565 : Cond.fieldLink RX10 173 "IcePilots$Ice" "channel" "[I" ∈ GW := gc_14 _ (List.mem_of_getElem? (i := 5) rfl)
theorem gw_566 : Cond.methodLink RX10 176 yX3_burden ∈ GW := gc_14 _ (List.mem_of_getElem? (i := 6) rfl)
theorem gw_567 : Cond.code yX10_cell cX10_cell 6 (some .int) ∈ GW := gc_14 _ (List.mem_of_getElem? (i := 7) rfl)
theorem gw_568 : Cond.fieldLink RX10 179 "IcePilots$Fleet" "strength" "[I" ∈ GW := gc_14 _ (List.mem_of_getElem? (i := 8) rfl)
theorem gw_569 : Cond.fieldLink RX10 193 "IcePilots$Fleet" "line" "[I" ∈ GW := gc_14 _ (List.mem_of_getElem? (i := 9) rfl)
theorem gw_570 : Cond.fieldLink RX10 196 "IcePilots$Fleet" "done" "[Z" ∈ GW := gc_14 _ (List.mem_of_getElem? (i := 10) rfl)
theorem gw_571 : Cond.methodLink RX10 187 yX2_held ∈ GW := gc_14 _ (List.mem_of_getElem? (i := 11) rfl)
theorem gw_572 : Cond.methodLink RX10 199 yX1_linesOf ∈ GW := gc_14 _ (List.mem_of_getElem? (i := 12) rfl)
theorem gw_573 : Cond.instanceMethod yX1_linesOf ∈ GW := gc_14 _ (List.mem_of_getElem? (i := 13) rfl)
theorem gw_574 : Cond.selects RX1 yX1_linesOf yX1_linesOf ∈ GW := gc_14 _ (List.mem_of_getElem? (i := 14) rfl)
theorem gw_575 : Cond.code yX10_tell cX10_tell 4 (some .int) ∈ GW := gc_14 _ (List.mem_of_getElem? (i := 15) rfl)
theorem gw_576 : Cond.fieldLink RX10 202 "IcePilots$Ice" "rows" "I" ∈ GW := gc_14 _ (List.mem_of_getElem? (i := 16) rfl)
theorem gw_577 : Cond.fieldLink RX10 205 "IcePilots$Ice" "columns" "I" ∈ GW := gc_14 _ (List.mem_of_getElem? (i := 17) rfl)
theorem gw_578 : Cond.fieldLink RX10 208 "IcePilots$Fleet" "size" "I" ∈ GW := gc_14 _ (List.mem_of_getElem? (i := 18) rfl)
theorem gw_579 : Cond.fieldLink RX10 211 "IcePilots$Ice" "grown" "I" ∈ GW := gc_14 _ (List.mem_of_getElem? (i := 19) rfl)
theorem gw_580 : Cond.fieldLink RX10 214 "IcePilots$Ice" "melted" "I" ∈ GW := gc_14 _ (List.mem_of_getElem? (i := 20) rfl)
theorem gw_581 : Cond.fieldLink RX10 217 "IcePilots$Whole" "convoy" "LIcePilots$Convoy;" ∈ GW := gc_14 _ (List.mem_of_getElem? (i := 21) rfl)
theorem gw_582 : Cond.fieldLink RX10 221 "IcePilots$Convoy" "size" "I" ∈ GW := gc_14 _ (List.mem_of_getElem? (i := 22) rfl)
theorem gw_583 : Cond.code yX10_count cX10_count 3 (some .int) ∈ GW := gc_14 _ (List.mem_of_getElem? (i := 23) rfl)
theorem gw_584 : Cond.code yX10_passage cX10_passage 4 (some .int) ∈ GW := gc_14 _ (List.mem_of_getElem? (i := 24) rfl)
theorem gw_585 : Cond.methodLink RX10 224 yX0_join ∈ GW := gc_14 _ (List.mem_of_getElem? (i := 25) rfl)
theorem gw_586 : Cond.instanceMethod yX0_join ∈ GW := gc_14 _ (List.mem_of_getElem? (i := 26) rfl)
theorem gw_587 : Cond.selects RX0 yX0_join yX0_join ∈ GW := gc_14 _ (List.mem_of_getElem? (i := 27) rfl)
theorem gw_588 : Cond.code yX10_clear cX10_clear 1 none ∈ GW := gc_14 _ (List.mem_of_getElem? (i := 28) rfl)
theorem gw_589 : Cond.methodLink RX10 225 yX0_settle ∈ GW := gc_14 _ (List.mem_of_getElem? (i := 29) rfl)
theorem gw_590 : Cond.instanceMethod yX0_settle ∈ GW := gc_14 _ (List.mem_of_getElem? (i := 30) rfl)
theorem gw_591 : Cond.selects RX0 yX0_settle yX0_settle ∈ GW := gc_14 _ (List.mem_of_getElem? (i := 31) rfl)
theorem gw_592 : Cond.code yX10_turns cX10_turns 2 (some .int) ∈ GW := gc_14 _ (List.mem_of_getElem? (i := 32) rfl)
theorem gw_593 : Cond.code yX10_turn cX10_turn 2 (some .int) ∈ GW := gc_14 _ (List.mem_of_getElem? (i := 33) rfl)
theorem gw_594 : Cond.fieldLink RX10 228 "IcePilots$Convoy" "settledSize" "I" ∈ GW := gc_14 _ (List.mem_of_getElem? (i := 34) rfl)
theorem gw_595 : Cond.fieldLink RX10 231 "IcePilots$Convoy" "settled" "[I" ∈ GW := gc_14 _ (List.mem_of_getElem? (i := 35) rfl)
theorem gw_596 : Cond.code yX10_cost cX10_cost 3 (some .int) ∈ GW := gc_14 _ (List.mem_of_getElem? (i := 36) rfl)
theorem gw_597 : Cond.methodLink RX10 234 yX0_tryDigits ∈ GW := gc_14 _ (List.mem_of_getElem? (i := 37) rfl)
theorem gw_598 : Cond.instanceMethod yX0_tryDigits ∈ GW := gc_14 _ (List.mem_of_getElem? (i := 38) rfl)
theorem gw_599 : Cond.selects RX0 yX0_tryDigits yX0_tryDigits ∈ GW := gc_14 _ (List.mem_of_getElem? (i := 39) rfl)
theorem gw_600 : Cond.methodLink RX10 237 yX0_waiting ∈ GW := gc_15 _ (List.mem_of_getElem? (i := 0) rfl)
theorem gw_601 : Cond.methodLink RX10 240 yX8_copy ∈ GW := gc_15 _ (List.mem_of_getElem? (i := 1) rfl)
theorem gw_602 : Cond.instanceMethod yX8_copy ∈ GW := gc_15 _ (List.mem_of_getElem? (i := 2) rfl)
theorem gw_603 : Cond.selects RX8 yX8_copy yX8_copy ∈ GW := gc_15 _ (List.mem_of_getElem? (i := 3) rfl)
theorem gw_604 : Cond.code yX10_image cX10_image 2 (some .boolean) ∈ GW := gc_15 _ (List.mem_of_getElem? (i := 4) rfl)
theorem gw_605 : Cond.code yX10_again cX10_again 2 (some .boolean) ∈ GW := gc_15 _ (List.mem_of_getElem? (i := 5) rfl)
theorem gw_606 : Cond.code yX11_begins cX11_begins 5 none ∈ GW := gc_15 _ (List.mem_of_getElem? (i := 6) rfl)
theorem gw_607 : Cond.fieldLink RX11 8 "IcePilotsModel" "all" "[I" ∈ GW := gc_15 _ (List.mem_of_getElem? (i := 7) rfl)
theorem gw_608 : Cond.code yX11_init cX11_init 1 none ∈ GW := gc_15 _ (List.mem_of_getElem? (i := 8) rfl)
theorem gw_609 : Cond.methodLink RX11 1 objectInit ∈ GW := gc_15 _ (List.mem_of_getElem? (i := 9) rfl)
theorem gw_610 : Cond.constant RX11 7 (53700) ∈ GW := gc_15 _ (List.mem_of_getElem? (i := 10) rfl)
theorem gw_611 : Cond.fieldLink RX11 14 "IcePilotsModel" "has" "[Z" ∈ GW := gc_15 _ (List.mem_of_getElem? (i := 11) rfl)
theorem gw_612 : Cond.fieldLink RX11 18 "IcePilotsModel" "line" "[I" ∈ GW := gc_15 _ (List.mem_of_getElem? (i := 12) rfl)
theorem gw_613 : Cond.fieldLink RX11 21 "IcePilotsModel" "act" "[I" ∈ GW := gc_15 _ (List.mem_of_getElem? (i := 13) rfl)
theorem gw_614 : Cond.fieldLink RX11 24 "IcePilotsModel" "pile" "[Z" ∈ GW := gc_15 _ (List.mem_of_getElem? (i := 14) rfl)
theorem gw_615 : Cond.fieldLink RX11 27 "IcePilotsModel" "comes" "[I" ∈ GW := gc_15 _ (List.mem_of_getElem? (i := 15) rfl)
theorem gw_616 : Cond.fieldLink RX11 30 "IcePilotsModel" "leaves" "[I" ∈ GW := gc_15 _ (List.mem_of_getElem? (i := 16) rfl)
theorem gw_617 : Cond.fieldLink RX11 33 "IcePilotsModel" "tried" "[I" ∈ GW := gc_15 _ (List.mem_of_getElem? (i := 17) rfl)
theorem gw_618 : Cond.fieldLink RX11 36 "IcePilotsModel" "met" "[Z" ∈ GW := gc_15 _ (List.mem_of_getElem? (i := 18) rfl)
theorem gw_619 : Cond.methodLink RX11 39 yX11_begins ∈ GW := gc_15 _ (List.mem_of_getElem? (i := 19) rfl)
theorem gw_620 : Cond.instanceMethod yX11_begins ∈ GW := gc_15 _ (List.mem_of_getElem? (i := 20) rfl)
theorem gw_621 : Cond.selects RX11 yX11_begins yX11_begins ∈ GW := gc_15 _ (List.mem_of_getElem? (i := 21) rfl)
theorem gw_622 : Cond.initialized RX11 ∈ GW := gc_15 _ (List.mem_of_getElem? (i := 22) rfl)
theorem gw_623 : Cond.code yX11_isIn cX11_isIn 3 (some .boolean) ∈ GW := gc_15 _ (List.mem_of_getElem? (i := 23) rfl)
theorem gw_624 : Cond.code yX11_gulf cX11_gulf 3 (some .boolean) ∈ GW := gc_15 _ (List.mem_of_getElem? (i := 24) rfl)
theorem gw_625 : Cond.methodLink RX11 43 yX11_isIn ∈ GW := gc_15 _ (List.mem_of_getElem? (i := 25) rfl)
theorem gw_626 : Cond.static yX11_isIn ∈ GW := gc_15 _ (List.mem_of_getElem? (i := 26) rfl)
theorem gw_627 : Cond.code yX11_isCell cX11_isCell 3 (some .boolean) ∈ GW := gc_15 _ (List.mem_of_getElem? (i := 27) rfl)
theorem gw_628 : Cond.code yX11_of cX11_of 4 (some .int) ∈ GW := gc_15 _ (List.mem_of_getElem? (i := 28) rfl)
theorem gw_629 : Cond.code yX11_sets cX11_sets 5 none ∈ GW := gc_15 _ (List.mem_of_getElem? (i := 29) rfl)
theorem gw_630 : Cond.code yX11_isSea cX11_isSea 3 (some .boolean) ∈ GW := gc_15 _ (List.mem_of_getElem? (i := 30) rfl)
theorem gw_631 : Cond.methodLink RX11 47 yX11_isCell ∈ GW := gc_15 _ (List.mem_of_getElem? (i := 31) rfl)
theorem gw_632 : Cond.instanceMethod yX11_isCell ∈ GW := gc_15 _ (List.mem_of_getElem? (i := 32) rfl)
theorem gw_633 : Cond.selects RX11 yX11_isCell yX11_isCell ∈ GW := gc_15 _ (List.mem_of_getElem? (i := 33) rfl)
theorem gw_634 : Cond.methodLink RX11 51 yX11_of ∈ GW := gc_15 _ (List.mem_of_getElem? (i := 34) rfl)
theorem gw_635 : Cond.instanceMethod yX11_of ∈ GW := gc_15 _ (List.mem_of_getElem? (i := 35) rfl)
theorem gw_636 : Cond.selects RX11 yX11_of yX11_of ∈ GW := gc_15 _ (List.mem_of_getElem? (i := 36) rfl)
theorem gw_637 : Cond.code yX11_its cX11_its 3 (some .int) ∈ GW := gc_15 _ (List.mem_of_getElem? (i := 37) rfl)
theorem gw_638 : Cond.code yX11_ships cX11_ships 4 none ∈ GW := gc_15 _ (List.mem_of_getElem? (i := 38) rfl)
theorem gw_639 : Cond.code yX11_shipAt cX11_shipAt 4 (some .int) ∈ GW := gc_15 _ (List.mem_of_getElem? (i := 39) rfl)
theorem gw_640 : Cond.methodLink RX11 55 yX11_its ∈ GW := gc_16 _ (List.mem_of_getElem? (i := 0) rfl)
theorem gw_641 : Cond.instanceMethod yX11_its ∈ GW := gc_16 _ (List.mem_of_getElem? (i := 1) rfl)
theorem gw_642 : Cond.selects RX11 yX11_its yX11_its ∈ GW := gc_16 _ (List.mem_of_getElem? (i := 2) rfl)
theorem gw_643 : Cond.methodLink RX11 59 yX11_shipAt ∈ GW := gc_16 _ (List.mem_of_getElem? (i := 3) rfl)
theorem gw_644 : Cond.instanceMethod yX11_shipAt ∈ GW := gc_16 _ (List.mem_of_getElem? (i := 4) rfl)
theorem gw_645 : Cond.selects RX11 yX11_shipAt yX11_shipAt ∈ GW := gc_16 _ (List.mem_of_getElem? (i := 5) rfl)
theorem gw_646 : Cond.methodLink RX11 62 yX11_sets ∈ GW := gc_16 _ (List.mem_of_getElem? (i := 6) rfl)
theorem gw_647 : Cond.instanceMethod yX11_sets ∈ GW := gc_16 _ (List.mem_of_getElem? (i := 7) rfl)
theorem gw_648 : Cond.selects RX11 yX11_sets yX11_sets ∈ GW := gc_16 _ (List.mem_of_getElem? (i := 8) rfl)
theorem gw_649 : Cond.code yX11_land cX11_land 5 (some .boolean) ∈ GW := gc_16 _ (List.mem_of_getElem? (i := 9) rfl)
theorem gw_650 : Cond.code yX11_ice cX11_ice 6 (some .boolean) ∈ GW := gc_16 _ (List.mem_of_getElem? (i := 10) rfl)
theorem gw_651 : Cond.methodLink RX11 66 yX11_isSea ∈ GW := gc_16 _ (List.mem_of_getElem? (i := 11) rfl)
theorem gw_652 : Cond.instanceMethod yX11_isSea ∈ GW := gc_16 _ (List.mem_of_getElem? (i := 12) rfl)
theorem gw_653 : Cond.selects RX11 yX11_isSea yX11_isSea ∈ GW := gc_16 _ (List.mem_of_getElem? (i := 13) rfl)
theorem gw_654 : Cond.code yX11_weather cX11_weather 7 (some .boolean) ∈ GW := gc_16 _ (List.mem_of_getElem? (i := 14) rfl)
theorem gw_655 : Cond.methodLink RX11 69 yX11_ships ∈ GW := gc_16 _ (List.mem_of_getElem? (i := 15) rfl)
theorem gw_656 : Cond.instanceMethod yX11_ships ∈ GW := gc_16 _ (List.mem_of_getElem? (i := 16) rfl)
theorem gw_657 : Cond.selects RX11 yX11_ships yX11_ships ∈ GW := gc_16 _ (List.mem_of_getElem? (i := 17) rfl)
theorem gw_658 : Cond.code yX11_ship cX11_ship 7 (some .int) ∈ GW := gc_16 _ (List.mem_of_getElem? (i := 18) rfl)
theorem gw_659 : Cond.code yX11_isShip cX11_isShip 2 (some .boolean) ∈ GW := gc_16 _ (List.mem_of_getElem? (i := 19) rfl)
theorem gw_660 : Cond.code yX11_feed cX11_feed 8 (some .int) ∈ GW := gc_16 _ (List.mem_of_getElem? (i := 20) rfl)
theorem gw_661 : Cond.code yX11_end cX11_end 2 (some .int) ∈ GW := gc_16 _ (List.mem_of_getElem? (i := 21) rfl)
theorem gw_662 : Cond.code yX11_byteAt cX11_byteAt 2 (some .int) ∈ GW := gc_16 _ (List.mem_of_getElem? (i := 22) rfl)
theorem gw_663 : Cond.fieldLink RX11 73 "IcePilotsModel" "size" "I" ∈ GW := gc_16 _ (List.mem_of_getElem? (i := 23) rfl)
theorem gw_664 : Cond.code yX11_isLetter cX11_isLetter 1 (some .boolean) ∈ GW := gc_16 _ (List.mem_of_getElem? (i := 24) rfl)
theorem gw_665 : Cond.code yX11_isDigit cX11_isDigit 1 (some .boolean) ∈ GW := gc_16 _ (List.mem_of_getElem? (i := 25) rfl)
theorem gw_666 : Cond.code yX11_two cX11_two 2 (some .long) ∈ GW := gc_16 _ (List.mem_of_getElem? (i := 26) rfl)
theorem gw_667 : Cond.constantLong RX11 77 (32) ∈ GW := gc_16 _ (List.mem_of_getElem? (i := 27) rfl)
theorem gw_668 : Cond.constantLong RX11 79 (96) ∈ GW := gc_16 _ (List.mem_of_getElem? (i := 28) rfl)
theorem gw_669 : Cond.code yX11_four cX11_four 4 (some .long) ∈ GW := gc_16 _ (List.mem_of_getElem? (i := 29) rfl)
theorem gw_670 : Cond.constantLong RX11 85 (1024) ∈ GW := gc_16 _ (List.mem_of_getElem? (i := 30) rfl)
theorem gw_671 : Cond.methodLink RX11 81 yX11_two ∈ GW := gc_16 _ (List.mem_of_getElem? (i := 31) rfl)
theorem gw_672 : Cond.static yX11_two ∈ GW := gc_16 _ (List.mem_of_getElem? (i := 32) rfl)
theorem gw_673 : Cond.code yX11_wordOf cX11_wordOf 2 (some .int) ∈ GW := gc_16 _ (List.mem_of_getElem? (i := 33) rfl)
theorem gw_674 : Cond.constantLong RX11 91 (108) ∈ GW := gc_16 _ (List.mem_of_getElem? (i := 34) rfl)
theorem gw_675 : Cond.constantLong RX11 93 (101) ∈ GW := gc_16 _ (List.mem_of_getElem? (i := 35) rfl)
theorem gw_676 : Cond.constantLong RX11 95 (119) ∈ GW := gc_16 _ (List.mem_of_getElem? (i := 36) rfl)
theorem gw_677 : Cond.constantLong RX11 97 (104) ∈ GW := gc_16 _ (List.mem_of_getElem? (i := 37) rfl)
theorem gw_678 : Cond.constantLong RX11 99 (116) ∈ GW := gc_16 _ (List.mem_of_getElem? (i := 38) rfl)
theorem gw_679 : Cond.constantLong RX11 101 (100) ∈ GW := gc_16 _ (List.mem_of_getElem? (i := 39) rfl)
theorem gw_680 : Cond.methodLink RX11 87 yX11_four ∈ GW := gc_17 _ (List.mem_of_getElem? (i := 0) rfl)
theorem gw_681 : Cond.static yX11_four ∈ GW := gc_17 _ (List.mem_of_getElem? (i := 1) rfl)
theorem gw_682 : Cond.code yX11_isSignByte cX11_isSignByte 1 (some .boolean) ∈ GW := gc_17 _ (List.mem_of_getElem? (i := 2) rfl)
theorem gw_683 : Cond.fieldLink RX11 103 "IcePilotsModel" "next" "I" ∈ GW := gc_17 _ (List.mem_of_getElem? (i := 3) rfl)
theorem gw_684 : Cond.fieldLink RX11 110 "IcePilotsModel" "where" "I" ∈ GW := gc_17 _ (List.mem_of_getElem? (i := 4) rfl)
theorem gw_685 : Cond.fieldLink RX11 113 "IcePilotsModel" "token" "I" ∈ GW := gc_17 _ (List.mem_of_getElem? (i := 5) rfl)
theorem gw_686 : Cond.fieldLink RX11 124 "IcePilotsModel" "word" "I" ∈ GW := gc_17 _ (List.mem_of_getElem? (i := 6) rfl)
theorem gw_687 : Cond.fieldLink RX11 130 "IcePilotsModel" "number" "I" ∈ GW := gc_17 _ (List.mem_of_getElem? (i := 7) rfl)
theorem gw_688 : Cond.fieldLink RX11 133 "IcePilotsModel" "sign" "I" ∈ GW := gc_17 _ (List.mem_of_getElem? (i := 8) rfl)
theorem gw_689 : Cond.methodLink RX11 106 yX11_byteAt ∈ GW := gc_17 _ (List.mem_of_getElem? (i := 9) rfl)
theorem gw_690 : Cond.instanceMethod yX11_byteAt ∈ GW := gc_17 _ (List.mem_of_getElem? (i := 10) rfl)
theorem gw_691 : Cond.selects RX11 yX11_byteAt yX11_byteAt ∈ GW := gc_17 _ (List.mem_of_getElem? (i := 11) rfl)
theorem gw_692 : Cond.methodLink RX11 116 yX11_isLetter ∈ GW := gc_17 _ (List.mem_of_getElem? (i := 12) rfl)
theorem gw_693 : Cond.static yX11_isLetter ∈ GW := gc_17 _ (List.mem_of_getElem? (i := 13) rfl)
theorem gw_694 : Cond.methodLink RX11 120 yX11_wordOf ∈ GW := gc_17 _ (List.mem_of_getElem? (i := 14) rfl)
theorem gw_695 : Cond.static yX11_wordOf ∈ GW := gc_17 _ (List.mem_of_getElem? (i := 15) rfl)
theorem gw_696 : Cond.methodLink RX11 127 yX11_isDigit ∈ GW := gc_17 _ (List.mem_of_getElem? (i := 16) rfl)
theorem gw_697 : Cond.static yX11_isDigit ∈ GW := gc_17 _ (List.mem_of_getElem? (i := 17) rfl)
theorem gw_698 : Cond.methodLink RX11 136 yX11_isSignByte ∈ GW := gc_17 _ (List.mem_of_getElem? (i := 18) rfl)
theorem gw_699 : Cond.static yX11_isSignByte ∈ GW := gc_17 _ (List.mem_of_getElem? (i := 19) rfl)
theorem gw_700 : Cond.code yX11_advance cX11_advance 4 none ∈ GW := gc_17 _ (List.mem_of_getElem? (i := 20) rfl)
theorem gw_701 : Cond.code yX11_stops cX11_stops 1 none ∈ GW := gc_17 _ (List.mem_of_getElem? (i := 21) rfl)
theorem gw_702 : Cond.fieldLink RX11 139 "IcePilotsModel" "wrong" "Z" ∈ GW := gc_17 _ (List.mem_of_getElem? (i := 22) rfl)
theorem gw_703 : Cond.code yX11_isWord cX11_isWord 2 (some .boolean) ∈ GW := gc_17 _ (List.mem_of_getElem? (i := 23) rfl)
theorem gw_704 : Cond.code yX11_isSign cX11_isSign 2 (some .boolean) ∈ GW := gc_17 _ (List.mem_of_getElem? (i := 24) rfl)
theorem gw_705 : Cond.methodLink RX11 143 yX11_isWord ∈ GW := gc_17 _ (List.mem_of_getElem? (i := 25) rfl)
theorem gw_706 : Cond.instanceMethod yX11_isWord ∈ GW := gc_17 _ (List.mem_of_getElem? (i := 26) rfl)
theorem gw_707 : Cond.selects RX11 yX11_isWord yX11_isWord ∈ GW := gc_17 _ (List.mem_of_getElem? (i := 27) rfl)
theorem gw_708 : Cond.methodLink RX11 146 yX11_advance ∈ GW := gc_17 _ (List.mem_of_getElem? (i := 28) rfl)
theorem gw_709 : Cond.instanceMethod yX11_advance ∈ GW := gc_17 _ (List.mem_of_getElem? (i := 29) rfl)
theorem gw_710 : Cond.selects RX11 yX11_advance yX11_advance ∈ GW := gc_17 _ (List.mem_of_getElem? (i := 30) rfl)
theorem gw_711 : Cond.code yX11_takesWord cX11_takesWord 2 (some .boolean) ∈ GW := gc_17 _ (List.mem_of_getElem? (i := 31) rfl)
theorem gw_712 : Cond.methodLink RX11 149 yX11_isSign ∈ GW := gc_17 _ (List.mem_of_getElem? (i := 32) rfl)
theorem gw_713 : Cond.instanceMethod yX11_isSign ∈ GW := gc_17 _ (List.mem_of_getElem? (i := 33) rfl)
theorem gw_714 : Cond.selects RX11 yX11_isSign yX11_isSign ∈ GW := gc_17 _ (List.mem_of_getElem? (i := 34) rfl)
theorem gw_715 : Cond.methodLink RX11 152 yX11_stops ∈ GW := gc_17 _ (List.mem_of_getElem? (i := 35) rfl)
theorem gw_716 : Cond.instanceMethod yX11_stops ∈ GW := gc_17 _ (List.mem_of_getElem? (i := 36) rfl)
theorem gw_717 : Cond.selects RX11 yX11_stops yX11_stops ∈ GW := gc_17 _ (List.mem_of_getElem? (i := 37) rfl)
theorem gw_718 : Cond.code yX11_must cX11_must 2 none ∈ GW := gc_17 _ (List.mem_of_getElem? (i := 38) rfl)
theorem gw_719 : Cond.code yX11_numbered cX11_numbered 2 (some .int) ∈ GW := gc_17 _ (List.mem_of_getElem? (i := 39) rfl)
theorem gw_720 : Cond.code yX11_emit cX11_emit 4 none ∈ GW := gc_18 _ (List.mem_of_getElem? (i := 0) rfl)
theorem gw_721 : Cond.fieldLink RX11 155 "IcePilotsModel" "acts" "I" ∈ GW := gc_18 _ (List.mem_of_getElem? (i := 1) rfl)
theorem gw_722 : Cond.methodLink RX11 170 yX11_notOf ∈ GW := gc_18 _ (List.mem_of_getElem? (i := 2) rfl)
theorem gw_723 : Cond.instanceMethod yX11_notOf ∈ GW := gc_18 _ (List.mem_of_getElem? (i := 3) rfl)
theorem gw_724 : Cond.selects RX11 yX11_notOf yX11_notOf ∈ GW := gc_18 _ (List.mem_of_getElem? (i := 4) rfl)
theorem gw_725 : Cond.methodLink RX11 164 yX11_takesWord ∈ GW := gc_18 _ (List.mem_of_getElem? (i := 5) rfl)
theorem gw_726 : Cond.instanceMethod yX11_takesWord ∈ GW := gc_18 _ (List.mem_of_getElem? (i := 6) rfl)
theorem gw_727 : Cond.selects RX11 yX11_takesWord yX11_takesWord ∈ GW := gc_18 _ (List.mem_of_getElem? (i := 7) rfl)
theorem gw_728 : Cond.methodLink RX11 167 yX11_emit ∈ GW := gc_18 _ (List.mem_of_getElem? (i := 8) rfl)
theorem gw_729 : Cond.instanceMethod yX11_emit ∈ GW := gc_18 _ (List.mem_of_getElem? (i := 9) rfl)
theorem gw_730 : Cond.selects RX11 yX11_emit yX11_emit ∈ GW := gc_18 _ (List.mem_of_getElem? (i := 10) rfl)
theorem gw_731 : Cond.code yX11_anyOf cX11_anyOf 1 none ∈ GW := gc_18 _ (List.mem_of_getElem? (i := 11) rfl)
theorem gw_732 : Cond.fieldLink RX11 158 "IcePilotsModel" "open" "I" ∈ GW := gc_18 _ (List.mem_of_getElem? (i := 12) rfl)
theorem gw_733 : Cond.methodLink RX11 161 yX11_allOf ∈ GW := gc_18 _ (List.mem_of_getElem? (i := 13) rfl)
theorem gw_734 : Cond.instanceMethod yX11_allOf ∈ GW := gc_18 _ (List.mem_of_getElem? (i := 14) rfl)
theorem gw_735 : Cond.selects RX11 yX11_allOf yX11_allOf ∈ GW := gc_18 _ (List.mem_of_getElem? (i := 15) rfl)
theorem gw_736 : Cond.code yX11_atom cX11_atom 3 none ∈ GW := gc_18 _ (List.mem_of_getElem? (i := 16) rfl)
theorem gw_737 : Cond.methodLink RX11 176 yX11_anyOf ∈ GW := gc_18 _ (List.mem_of_getElem? (i := 17) rfl)
theorem gw_738 : Cond.instanceMethod yX11_anyOf ∈ GW := gc_18 _ (List.mem_of_getElem? (i := 18) rfl)
theorem gw_739 : Cond.selects RX11 yX11_anyOf yX11_anyOf ∈ GW := gc_18 _ (List.mem_of_getElem? (i := 19) rfl)
theorem gw_740 : Cond.methodLink RX11 179 yX11_must ∈ GW := gc_18 _ (List.mem_of_getElem? (i := 20) rfl)
theorem gw_741 : Cond.instanceMethod yX11_must ∈ GW := gc_18 _ (List.mem_of_getElem? (i := 21) rfl)
theorem gw_742 : Cond.selects RX11 yX11_must yX11_must ∈ GW := gc_18 _ (List.mem_of_getElem? (i := 22) rfl)
theorem gw_743 : Cond.methodLink RX11 183 yX11_numbered ∈ GW := gc_18 _ (List.mem_of_getElem? (i := 23) rfl)
theorem gw_744 : Cond.instanceMethod yX11_numbered ∈ GW := gc_18 _ (List.mem_of_getElem? (i := 24) rfl)
theorem gw_745 : Cond.selects RX11 yX11_numbered yX11_numbered ∈ GW := gc_18 _ (List.mem_of_getElem? (i := 25) rfl)
theorem gw_746 : Cond.code yX11_notOf cX11_notOf 2 none ∈ GW := gc_18 _ (List.mem_of_getElem? (i := 26) rfl)
theorem gw_747 : Cond.methodLink RX11 173 yX11_atom ∈ GW := gc_18 _ (List.mem_of_getElem? (i := 27) rfl)
theorem gw_748 : Cond.instanceMethod yX11_atom ∈ GW := gc_18 _ (List.mem_of_getElem? (i := 28) rfl)
theorem gw_749 : Cond.selects RX11 yX11_atom yX11_atom ∈ GW := gc_18 _ (List.mem_of_getElem? (i := 29) rfl)
theorem gw_750 : Cond.code yX11_allOf cX11_allOf 1 none ∈ GW := gc_18 _ (List.mem_of_getElem? (i := 30) rfl)
theorem gw_751 : Cond.fieldLink RX11 187 "IcePilotsModel" "lines" "I" ∈ GW := gc_18 _ (List.mem_of_getElem? (i := 31) rfl)
theorem gw_752 : Cond.code yX11_aLine cX11_aLine 6 none ∈ GW := gc_18 _ (List.mem_of_getElem? (i := 32) rfl)
theorem gw_753 : Cond.methodLink RX11 190 yX11_isShip ∈ GW := gc_18 _ (List.mem_of_getElem? (i := 33) rfl)
theorem gw_754 : Cond.instanceMethod yX11_isShip ∈ GW := gc_18 _ (List.mem_of_getElem? (i := 34) rfl)
theorem gw_755 : Cond.selects RX11 yX11_isShip yX11_isShip ∈ GW := gc_18 _ (List.mem_of_getElem? (i := 35) rfl)
theorem gw_756 : Cond.methodLink RX11 193 yX11_aLine ∈ GW := gc_18 _ (List.mem_of_getElem? (i := 36) rfl)
theorem gw_757 : Cond.instanceMethod yX11_aLine ∈ GW := gc_18 _ (List.mem_of_getElem? (i := 37) rfl)
theorem gw_758 : Cond.selects RX11 yX11_aLine yX11_aLine ∈ GW := gc_18 _ (List.mem_of_getElem? (i := 38) rfl)
theorem gw_759 : Cond.code yX11_orders cX11_orders 3 (some .int) ∈ GW := gc_18 _ (List.mem_of_getElem? (i := 39) rfl)
theorem gw_760 : Cond.code yX11_fault cX11_fault 2 (some .int) ∈ GW := gc_19 _ (List.mem_of_getElem? (i := 0) rfl)
theorem gw_761 : Cond.code yX11_call cX11_call 3 (some .boolean) ∈ GW := gc_19 _ (List.mem_of_getElem? (i := 1) rfl)
theorem gw_762 : Cond.code yX11_rowTo cX11_rowTo 1 (some .int) ∈ GW := gc_19 _ (List.mem_of_getElem? (i := 2) rfl)
theorem gw_763 : Cond.code yX11_columnTo cX11_columnTo 1 (some .int) ∈ GW := gc_19 _ (List.mem_of_getElem? (i := 3) rfl)
theorem gw_764 : Cond.code yX11_burden cX11_burden 3 (some .int) ∈ GW := gc_19 _ (List.mem_of_getElem? (i := 4) rfl)
theorem gw_765 : Cond.code yX11_beside cX11_beside 3 (some .int) ∈ GW := gc_19 _ (List.mem_of_getElem? (i := 5) rfl)
theorem gw_766 : Cond.methodLink RX11 196 yX11_rowTo ∈ GW := gc_19 _ (List.mem_of_getElem? (i := 6) rfl)
theorem gw_767 : Cond.static yX11_rowTo ∈ GW := gc_19 _ (List.mem_of_getElem? (i := 7) rfl)
theorem gw_768 : Cond.methodLink RX11 199 yX11_columnTo ∈ GW := gc_19 _ (List.mem_of_getElem? (i := 8) rfl)
theorem gw_769 : Cond.static yX11_columnTo ∈ GW := gc_19 _ (List.mem_of_getElem? (i := 9) rfl)
theorem gw_770 : Cond.methodLink RX11 202 yX11_burden ∈ GW := gc_19 _ (List.mem_of_getElem? (i := 10) rfl)
theorem gw_771 : Cond.instanceMethod yX11_burden ∈ GW := gc_19 _ (List.mem_of_getElem? (i := 11) rfl)
theorem gw_772 : Cond.selects RX11 yX11_burden yX11_burden ∈ GW := gc_19 _ (List.mem_of_getElem? (i := 12) rfl)
theorem gw_773 : Cond.methodLink RX11 205 yX11_beside ∈ GW := gc_19 _ (List.mem_of_getElem? (i := 13) rfl)
theorem gw_774 : Cond.instanceMethod yX11_beside ∈ GW := gc_19 _ (List.mem_of_getElem? (i := 14) rfl)
theorem gw_775 : Cond.selects RX11 yX11_beside yX11_beside ∈ GW := gc_19 _ (List.mem_of_getElem? (i := 15) rfl)
theorem gw_776 : Cond.code yX11_isHeld cX11_isHeld 5 (some .boolean) ∈ GW := gc_19 _ (List.mem_of_getElem? (i := 16) rfl)
theorem gw_777 : Cond.code yX11_there cX11_there 5 (some .int) ∈ GW := gc_19 _ (List.mem_of_getElem? (i := 17) rfl)
theorem gw_778 : Cond.methodLink RX11 208 yX11_isHeld ∈ GW := gc_19 _ (List.mem_of_getElem? (i := 18) rfl)
theorem gw_779 : Cond.instanceMethod yX11_isHeld ∈ GW := gc_19 _ (List.mem_of_getElem? (i := 19) rfl)
theorem gw_780 : Cond.selects RX11 yX11_isHeld yX11_isHeld ∈ GW := gc_19 _ (List.mem_of_getElem? (i := 20) rfl)
theorem gw_781 : Cond.methodLink RX11 211 yX11_there ∈ GW := gc_19 _ (List.mem_of_getElem? (i := 21) rfl)
theorem gw_782 : Cond.instanceMethod yX11_there ∈ GW := gc_19 _ (List.mem_of_getElem? (i := 22) rfl)
theorem gw_783 : Cond.selects RX11 yX11_there yX11_there ∈ GW := gc_19 _ (List.mem_of_getElem? (i := 23) rfl)
theorem gw_784 : Cond.code yX11_asked cX11_asked 5 (some .int) ∈ GW := gc_19 _ (List.mem_of_getElem? (i := 24) rfl)
theorem gw_785 : Cond.methodLink RX11 214 yX11_asked ∈ GW := gc_19 _ (List.mem_of_getElem? (i := 25) rfl)
theorem gw_786 : Cond.instanceMethod yX11_asked ∈ GW := gc_19 _ (List.mem_of_getElem? (i := 26) rfl)
theorem gw_787 : Cond.selects RX11 yX11_asked yX11_asked ∈ GW := gc_19 _ (List.mem_of_getElem? (i := 27) rfl)
theorem gw_788 : Cond.code yX11_holds cX11_holds 10 (some .boolean) ∈ GW := gc_19 _ (List.mem_of_getElem? (i := 28) rfl)
theorem gw_789 : Cond.code yX11_goes cX11_goes 5 (some .boolean) ∈ GW := gc_19 _ (List.mem_of_getElem? (i := 29) rfl)
theorem gw_790 : Cond.code yX11_cuts cX11_cuts 4 (some .boolean) ∈ GW := gc_19 _ (List.mem_of_getElem? (i := 30) rfl)
theorem gw_791 : Cond.methodLink RX11 217 yX11_cuts ∈ GW := gc_19 _ (List.mem_of_getElem? (i := 31) rfl)
theorem gw_792 : Cond.instanceMethod yX11_cuts ∈ GW := gc_19 _ (List.mem_of_getElem? (i := 32) rfl)
theorem gw_793 : Cond.selects RX11 yX11_cuts yX11_cuts ∈ GW := gc_19 _ (List.mem_of_getElem? (i := 33) rfl)
theorem gw_794 : Cond.methodLink RX11 220 yX11_goes ∈ GW := gc_19 _ (List.mem_of_getElem? (i := 34) rfl)
theorem gw_795 : Cond.instanceMethod yX11_goes ∈ GW := gc_19 _ (List.mem_of_getElem? (i := 35) rfl)
theorem gw_796 : Cond.selects RX11 yX11_goes yX11_goes ∈ GW := gc_19 _ (List.mem_of_getElem? (i := 36) rfl)
theorem gw_797 : Cond.code yX11_does cX11_does 5 (some .boolean) ∈ GW := gc_19 _ (List.mem_of_getElem? (i := 37) rfl)
theorem gw_798 : Cond.methodLink RX11 223 yX11_holds ∈ GW := gc_19 _ (List.mem_of_getElem? (i := 38) rfl)
theorem gw_799 : Cond.instanceMethod yX11_holds ∈ GW := gc_19 _ (List.mem_of_getElem? (i := 39) rfl)
theorem gw_800 : Cond.selects RX11 yX11_holds yX11_holds ∈ GW := gc_20 _ (List.mem_of_getElem? (i := 0) rfl)
theorem gw_801 : Cond.methodLink RX11 226 yX11_does ∈ GW := gc_20 _ (List.mem_of_getElem? (i := 1) rfl)
theorem gw_802 : Cond.instanceMethod yX11_does ∈ GW := gc_20 _ (List.mem_of_getElem? (i := 2) rfl)
theorem gw_803 : Cond.selects RX11 yX11_does yX11_does ∈ GW := gc_20 _ (List.mem_of_getElem? (i := 3) rfl)
theorem gw_804 : Cond.code yX11_obeys cX11_obeys 3 none ∈ GW := gc_20 _ (List.mem_of_getElem? (i := 4) rfl)
theorem gw_805 : Cond.code yX11_freezes cX11_freezes 7 none ∈ GW := gc_20 _ (List.mem_of_getElem? (i := 5) rfl)
theorem gw_806 : Cond.code yX11_drifts cX11_drifts 6 none ∈ GW := gc_20 _ (List.mem_of_getElem? (i := 6) rfl)
theorem gw_807 : Cond.methodLink RX11 229 yX11_obeys ∈ GW := gc_20 _ (List.mem_of_getElem? (i := 7) rfl)
theorem gw_808 : Cond.instanceMethod yX11_obeys ∈ GW := gc_20 _ (List.mem_of_getElem? (i := 8) rfl)
theorem gw_809 : Cond.selects RX11 yX11_obeys yX11_obeys ∈ GW := gc_20 _ (List.mem_of_getElem? (i := 9) rfl)
theorem gw_810 : Cond.methodLink RX11 232 yX11_freezes ∈ GW := gc_20 _ (List.mem_of_getElem? (i := 10) rfl)
theorem gw_811 : Cond.instanceMethod yX11_freezes ∈ GW := gc_20 _ (List.mem_of_getElem? (i := 11) rfl)
theorem gw_812 : Cond.selects RX11 yX11_freezes yX11_freezes ∈ GW := gc_20 _ (List.mem_of_getElem? (i := 12) rfl)
theorem gw_813 : Cond.methodLink RX11 235 yX11_drifts ∈ GW := gc_20 _ (List.mem_of_getElem? (i := 13) rfl)
theorem gw_814 : Cond.instanceMethod yX11_drifts ∈ GW := gc_20 _ (List.mem_of_getElem? (i := 14) rfl)
theorem gw_815 : Cond.selects RX11 yX11_drifts yX11_drifts ∈ GW := gc_20 _ (List.mem_of_getElem? (i := 15) rfl)
theorem gw_816 : Cond.code yX11_anHour cX11_anHour 6 none ∈ GW := gc_20 _ (List.mem_of_getElem? (i := 16) rfl)
theorem gw_817 : Cond.code yX11_mayGo cX11_mayGo 2 (some .boolean) ∈ GW := gc_20 _ (List.mem_of_getElem? (i := 17) rfl)
theorem gw_818 : Cond.methodLink RX11 238 yX11_mayGo ∈ GW := gc_20 _ (List.mem_of_getElem? (i := 18) rfl)
theorem gw_819 : Cond.instanceMethod yX11_mayGo ∈ GW := gc_20 _ (List.mem_of_getElem? (i := 19) rfl)
theorem gw_820 : Cond.selects RX11 yX11_mayGo yX11_mayGo ∈ GW := gc_20 _ (List.mem_of_getElem? (i := 20) rfl)
theorem gw_821 : Cond.methodLink RX11 241 yX11_anHour ∈ GW := gc_20 _ (List.mem_of_getElem? (i := 21) rfl)
theorem gw_822 : Cond.instanceMethod yX11_anHour ∈ GW := gc_20 _ (List.mem_of_getElem? (i := 22) rfl)
theorem gw_823 : Cond.selects RX11 yX11_anHour yX11_anHour ∈ GW := gc_20 _ (List.mem_of_getElem? (i := 23) rfl)
theorem gw_824 : Cond.code yX11_hours cX11_hours 3 (some .int) ∈ GW := gc_20 _ (List.mem_of_getElem? (i := 24) rfl)
theorem gw_825 : Cond.code yX11_iceOf cX11_iceOf 5 (some .int) ∈ GW := gc_20 _ (List.mem_of_getElem? (i := 25) rfl)
theorem gw_826 : Cond.code yX11_copies cX11_copies 4 none ∈ GW := gc_20 _ (List.mem_of_getElem? (i := 26) rfl)
theorem gw_827 : Cond.methodLink RX11 244 yX11_copies ∈ GW := gc_20 _ (List.mem_of_getElem? (i := 27) rfl)
theorem gw_828 : Cond.instanceMethod yX11_copies ∈ GW := gc_20 _ (List.mem_of_getElem? (i := 28) rfl)
theorem gw_829 : Cond.selects RX11 yX11_copies yX11_copies ∈ GW := gc_20 _ (List.mem_of_getElem? (i := 29) rfl)
theorem gw_830 : Cond.methodLink RX11 247 yX11_iceOf ∈ GW := gc_20 _ (List.mem_of_getElem? (i := 30) rfl)
theorem gw_831 : Cond.instanceMethod yX11_iceOf ∈ GW := gc_20 _ (List.mem_of_getElem? (i := 31) rfl)
theorem gw_832 : Cond.selects RX11 yX11_iceOf yX11_iceOf ∈ GW := gc_20 _ (List.mem_of_getElem? (i := 32) rfl)
theorem gw_833 : Cond.code yX11_ahead cX11_ahead 5 (some .int) ∈ GW := gc_20 _ (List.mem_of_getElem? (i := 33) rfl)
theorem gw_834 : Cond.code yX11_cell cX11_cell 4 (some .int) ∈ GW := gc_20 _ (List.mem_of_getElem? (i := 34) rfl)
theorem gw_835 : Cond.code yX11_tell cX11_tell 3 (some .int) ∈ GW := gc_20 _ (List.mem_of_getElem? (i := 35) rfl)
theorem gw_836 : Cond.code yX11_count cX11_count 2 (some .int) ∈ GW := gc_20 _ (List.mem_of_getElem? (i := 36) rfl)
theorem gw_837 : Cond.code yX11_passage cX11_passage 5 (some .int) ∈ GW := gc_20 _ (List.mem_of_getElem? (i := 37) rfl)
theorem gw_838 : Cond.code yX11_clear cX11_clear 1 none ∈ GW := gc_20 _ (List.mem_of_getElem? (i := 38) rfl)
theorem gw_839 : Cond.code yX11_isOrder cX11_isOrder 3 (some .boolean) ∈ GW := gc_20 _ (List.mem_of_getElem? (i := 39) rfl)
theorem gw_840 : Cond.code yX11_costs cX11_costs 10 (some .int) ∈ GW := gc_21 _ (List.mem_of_getElem? (i := 0) rfl)
theorem gw_841 : Cond.code yX11_turns cX11_turns 9 (some .int) ∈ GW := gc_21 _ (List.mem_of_getElem? (i := 1) rfl)
theorem gw_842 : Cond.methodLink RX11 250 yX11_isOrder ∈ GW := gc_21 _ (List.mem_of_getElem? (i := 2) rfl)
theorem gw_843 : Cond.instanceMethod yX11_isOrder ∈ GW := gc_21 _ (List.mem_of_getElem? (i := 3) rfl)
theorem gw_844 : Cond.selects RX11 yX11_isOrder yX11_isOrder ∈ GW := gc_21 _ (List.mem_of_getElem? (i := 4) rfl)
theorem gw_845 : Cond.methodLink RX11 254 yX11_costs ∈ GW := gc_21 _ (List.mem_of_getElem? (i := 5) rfl)
theorem gw_846 : Cond.instanceMethod yX11_costs ∈ GW := gc_21 _ (List.mem_of_getElem? (i := 6) rfl)
theorem gw_847 : Cond.selects RX11 yX11_costs yX11_costs ∈ GW := gc_21 _ (List.mem_of_getElem? (i := 7) rfl)
theorem gw_848 : Cond.code yX11_turn cX11_turn 2 (some .int) ∈ GW := gc_21 _ (List.mem_of_getElem? (i := 8) rfl)
theorem gw_849 : Cond.code yX11_cost cX11_cost 4 (some .int) ∈ GW := gc_21 _ (List.mem_of_getElem? (i := 9) rfl)
theorem gw_850 : Cond.code yX11_image cX11_image 2 (some .boolean) ∈ GW := gc_21 _ (List.mem_of_getElem? (i := 10) rfl)
theorem gw_851 : Cond.code yX11_again cX11_again 2 (some .boolean) ∈ GW := gc_21 _ (List.mem_of_getElem? (i := 11) rfl)
theorem gw_852 : Cond.code yJ9_max_7cf53 cJ9_max_7cf53 2 (some .int) ∈ GW := gc_21 _ (List.mem_of_getElem? (i := 12) rfl)
theorem gw_853 : Cond.code yJ9_min_7cf53 cJ9_min_7cf53 2 (some .int) ∈ GW := gc_21 _ (List.mem_of_getElem? (i := 13) rfl)
theorem gw_854 : Cond.classLink RL 7 RX10 ∈ GW := gc_21 _ (List.mem_of_getElem? (i := 14) rfl)
theorem gw_855 : Cond.instantiable RX10 4 ∈ GW := gc_21 _ (List.mem_of_getElem? (i := 15) rfl)
theorem gw_856 : Cond.classLink RL 10 RX11 ∈ GW := gc_21 _ (List.mem_of_getElem? (i := 16) rfl)
theorem gw_857 : Cond.instantiable RX11 20 ∈ GW := gc_21 _ (List.mem_of_getElem? (i := 17) rfl)
theorem gw_858 : Cond.methodLink RL 9 yX10_init ∈ GW := gc_21 _ (List.mem_of_getElem? (i := 18) rfl)
theorem gw_859 : Cond.instanceMethod yX10_init ∈ GW := gc_21 _ (List.mem_of_getElem? (i := 19) rfl)
theorem gw_860 : Cond.methodLink RL 12 yX11_init ∈ GW := gc_21 _ (List.mem_of_getElem? (i := 20) rfl)
theorem gw_861 : Cond.instanceMethod yX11_init ∈ GW := gc_21 _ (List.mem_of_getElem? (i := 21) rfl)
theorem gw_862 : Cond.methodLink RL 13 yX10_gulf ∈ GW := gc_21 _ (List.mem_of_getElem? (i := 22) rfl)
theorem gw_863 : Cond.instanceMethod yX10_gulf ∈ GW := gc_21 _ (List.mem_of_getElem? (i := 23) rfl)
theorem gw_864 : Cond.selects RX10 yX10_gulf yX10_gulf ∈ GW := gc_21 _ (List.mem_of_getElem? (i := 24) rfl)
theorem gw_865 : Cond.methodLink RL 17 yX11_gulf ∈ GW := gc_21 _ (List.mem_of_getElem? (i := 25) rfl)
theorem gw_866 : Cond.instanceMethod yX11_gulf ∈ GW := gc_21 _ (List.mem_of_getElem? (i := 26) rfl)
theorem gw_867 : Cond.selects RX11 yX11_gulf yX11_gulf ∈ GW := gc_21 _ (List.mem_of_getElem? (i := 27) rfl)
theorem gw_868 : Cond.methodLink RL 18 yX10_land ∈ GW := gc_21 _ (List.mem_of_getElem? (i := 28) rfl)
theorem gw_869 : Cond.instanceMethod yX10_land ∈ GW := gc_21 _ (List.mem_of_getElem? (i := 29) rfl)
theorem gw_870 : Cond.selects RX10 yX10_land yX10_land ∈ GW := gc_21 _ (List.mem_of_getElem? (i := 30) rfl)
theorem gw_871 : Cond.methodLink RL 22 yX11_land ∈ GW := gc_21 _ (List.mem_of_getElem? (i := 31) rfl)
theorem gw_872 : Cond.instanceMethod yX11_land ∈ GW := gc_21 _ (List.mem_of_getElem? (i := 32) rfl)
theorem gw_873 : Cond.selects RX11 yX11_land yX11_land ∈ GW := gc_21 _ (List.mem_of_getElem? (i := 33) rfl)
theorem gw_874 : Cond.methodLink RL 23 yX10_ice ∈ GW := gc_21 _ (List.mem_of_getElem? (i := 34) rfl)
theorem gw_875 : Cond.instanceMethod yX10_ice ∈ GW := gc_21 _ (List.mem_of_getElem? (i := 35) rfl)
theorem gw_876 : Cond.selects RX10 yX10_ice yX10_ice ∈ GW := gc_21 _ (List.mem_of_getElem? (i := 36) rfl)
theorem gw_877 : Cond.methodLink RL 27 yX11_ice ∈ GW := gc_21 _ (List.mem_of_getElem? (i := 37) rfl)
theorem gw_878 : Cond.instanceMethod yX11_ice ∈ GW := gc_21 _ (List.mem_of_getElem? (i := 38) rfl)
theorem gw_879 : Cond.selects RX11 yX11_ice yX11_ice ∈ GW := gc_21 _ (List.mem_of_getElem? (i := 39) rfl)
theorem gw_880 : Cond.methodLink RL 28 yX10_weather ∈ GW := gc_22 _ (List.mem_of_getElem? (i := 0) rfl)
theorem gw_881 : Cond.instanceMethod yX10_weather ∈ GW := gc_22 _ (List.mem_of_getElem? (i := 1) rfl)
theorem gw_882 : Cond.selects RX10 yX10_weather yX10_weather ∈ GW := gc_22 _ (List.mem_of_getElem? (i := 2) rfl)
theorem gw_883 : Cond.methodLink RL 32 yX11_weather ∈ GW := gc_22 _ (List.mem_of_getElem? (i := 3) rfl)
theorem gw_884 : Cond.instanceMethod yX11_weather ∈ GW := gc_22 _ (List.mem_of_getElem? (i := 4) rfl)
theorem gw_885 : Cond.selects RX11 yX11_weather yX11_weather ∈ GW := gc_22 _ (List.mem_of_getElem? (i := 5) rfl)
theorem gw_886 : Cond.methodLink RL 33 yX10_ship ∈ GW := gc_22 _ (List.mem_of_getElem? (i := 6) rfl)
theorem gw_887 : Cond.instanceMethod yX10_ship ∈ GW := gc_22 _ (List.mem_of_getElem? (i := 7) rfl)
theorem gw_888 : Cond.selects RX10 yX10_ship yX10_ship ∈ GW := gc_22 _ (List.mem_of_getElem? (i := 8) rfl)
theorem gw_889 : Cond.methodLink RL 37 yX11_ship ∈ GW := gc_22 _ (List.mem_of_getElem? (i := 9) rfl)
theorem gw_890 : Cond.instanceMethod yX11_ship ∈ GW := gc_22 _ (List.mem_of_getElem? (i := 10) rfl)
theorem gw_891 : Cond.selects RX11 yX11_ship yX11_ship ∈ GW := gc_22 _ (List.mem_of_getElem? (i := 11) rfl)
theorem gw_892 : Cond.methodLink RL 38 yX10_feed ∈ GW := gc_22 _ (List.mem_of_getElem? (i := 12) rfl)
theorem gw_893 : Cond.instanceMethod yX10_feed ∈ GW := gc_22 _ (List.mem_of_getElem? (i := 13) rfl)
theorem gw_894 : Cond.selects RX10 yX10_feed yX10_feed ∈ GW := gc_22 _ (List.mem_of_getElem? (i := 14) rfl)
theorem gw_895 : Cond.methodLink RL 42 yX11_feed ∈ GW := gc_22 _ (List.mem_of_getElem? (i := 15) rfl)
theorem gw_896 : Cond.instanceMethod yX11_feed ∈ GW := gc_22 _ (List.mem_of_getElem? (i := 16) rfl)
theorem gw_897 : Cond.selects RX11 yX11_feed yX11_feed ∈ GW := gc_22 _ (List.mem_of_getElem? (i := 17) rfl)
theorem gw_898 : Cond.methodLink RL 43 yX10_end ∈ GW := gc_22 _ (List.mem_of_getElem? (i := 18) rfl)
theorem gw_899 : Cond.instanceMethod yX10_end ∈ GW := gc_22 _ (List.mem_of_getElem? (i := 19) rfl)
theorem gw_900 : Cond.selects RX10 yX10_end yX10_end ∈ GW := gc_22 _ (List.mem_of_getElem? (i := 20) rfl)
theorem gw_901 : Cond.methodLink RL 47 yX11_end ∈ GW := gc_22 _ (List.mem_of_getElem? (i := 21) rfl)
theorem gw_902 : Cond.instanceMethod yX11_end ∈ GW := gc_22 _ (List.mem_of_getElem? (i := 22) rfl)
theorem gw_903 : Cond.selects RX11 yX11_end yX11_end ∈ GW := gc_22 _ (List.mem_of_getElem? (i := 23) rfl)
theorem gw_904 : Cond.methodLink RL 48 yX10_orders ∈ GW := gc_22 _ (List.mem_of_getElem? (i := 24) rfl)
theorem gw_905 : Cond.instanceMethod yX10_orders ∈ GW := gc_22 _ (List.mem_of_getElem? (i := 25) rfl)
theorem gw_906 : Cond.selects RX10 yX10_orders yX10_orders ∈ GW := gc_22 _ (List.mem_of_getElem? (i := 26) rfl)
theorem gw_907 : Cond.methodLink RL 51 yX11_orders ∈ GW := gc_22 _ (List.mem_of_getElem? (i := 27) rfl)
theorem gw_908 : Cond.instanceMethod yX11_orders ∈ GW := gc_22 _ (List.mem_of_getElem? (i := 28) rfl)
theorem gw_909 : Cond.selects RX11 yX11_orders yX11_orders ∈ GW := gc_22 _ (List.mem_of_getElem? (i := 29) rfl)
theorem gw_910 : Cond.methodLink RL 52 yX10_fault ∈ GW := gc_22 _ (List.mem_of_getElem? (i := 30) rfl)
theorem gw_911 : Cond.instanceMethod yX10_fault ∈ GW := gc_22 _ (List.mem_of_getElem? (i := 31) rfl)
theorem gw_912 : Cond.selects RX10 yX10_fault yX10_fault ∈ GW := gc_22 _ (List.mem_of_getElem? (i := 32) rfl)
theorem gw_913 : Cond.methodLink RL 55 yX11_fault ∈ GW := gc_22 _ (List.mem_of_getElem? (i := 33) rfl)
theorem gw_914 : Cond.instanceMethod yX11_fault ∈ GW := gc_22 _ (List.mem_of_getElem? (i := 34) rfl)
theorem gw_915 : Cond.selects RX11 yX11_fault yX11_fault ∈ GW := gc_22 _ (List.mem_of_getElem? (i := 35) rfl)
theorem gw_916 : Cond.methodLink RL 56 yX10_call ∈ GW := gc_22 _ (List.mem_of_getElem? (i := 36) rfl)
theorem gw_917 : Cond.instanceMethod yX10_call ∈ GW := gc_22 _ (List.mem_of_getElem? (i := 37) rfl)
theorem gw_918 : Cond.selects RX10 yX10_call yX10_call ∈ GW := gc_22 _ (List.mem_of_getElem? (i := 38) rfl)
theorem gw_919 : Cond.methodLink RL 59 yX11_call ∈ GW := gc_22 _ (List.mem_of_getElem? (i := 39) rfl)
theorem gw_920 : Cond.instanceMethod yX11_call ∈ GW := gc_23 _ (List.mem_of_getElem? (i := 0) rfl)
theorem gw_921 : Cond.selects RX11 yX11_call yX11_call ∈ GW := gc_23 _ (List.mem_of_getElem? (i := 1) rfl)
theorem gw_922 : Cond.methodLink RL 60 yX10_hours ∈ GW := gc_23 _ (List.mem_of_getElem? (i := 2) rfl)
theorem gw_923 : Cond.instanceMethod yX10_hours ∈ GW := gc_23 _ (List.mem_of_getElem? (i := 3) rfl)
theorem gw_924 : Cond.selects RX10 yX10_hours yX10_hours ∈ GW := gc_23 _ (List.mem_of_getElem? (i := 4) rfl)
theorem gw_925 : Cond.methodLink RL 63 yX11_hours ∈ GW := gc_23 _ (List.mem_of_getElem? (i := 5) rfl)
theorem gw_926 : Cond.instanceMethod yX11_hours ∈ GW := gc_23 _ (List.mem_of_getElem? (i := 6) rfl)
theorem gw_927 : Cond.selects RX11 yX11_hours yX11_hours ∈ GW := gc_23 _ (List.mem_of_getElem? (i := 7) rfl)
theorem gw_928 : Cond.methodLink RL 64 yX10_ahead ∈ GW := gc_23 _ (List.mem_of_getElem? (i := 8) rfl)
theorem gw_929 : Cond.instanceMethod yX10_ahead ∈ GW := gc_23 _ (List.mem_of_getElem? (i := 9) rfl)
theorem gw_930 : Cond.selects RX10 yX10_ahead yX10_ahead ∈ GW := gc_23 _ (List.mem_of_getElem? (i := 10) rfl)
theorem gw_931 : Cond.methodLink RL 68 yX11_ahead ∈ GW := gc_23 _ (List.mem_of_getElem? (i := 11) rfl)
theorem gw_932 : Cond.instanceMethod yX11_ahead ∈ GW := gc_23 _ (List.mem_of_getElem? (i := 12) rfl)
theorem gw_933 : Cond.selects RX11 yX11_ahead yX11_ahead ∈ GW := gc_23 _ (List.mem_of_getElem? (i := 13) rfl)
theorem gw_934 : Cond.methodLink RL 69 yX10_cell ∈ GW := gc_23 _ (List.mem_of_getElem? (i := 14) rfl)
theorem gw_935 : Cond.instanceMethod yX10_cell ∈ GW := gc_23 _ (List.mem_of_getElem? (i := 15) rfl)
theorem gw_936 : Cond.selects RX10 yX10_cell yX10_cell ∈ GW := gc_23 _ (List.mem_of_getElem? (i := 16) rfl)
theorem gw_937 : Cond.methodLink RL 72 yX11_cell ∈ GW := gc_23 _ (List.mem_of_getElem? (i := 17) rfl)
theorem gw_938 : Cond.instanceMethod yX11_cell ∈ GW := gc_23 _ (List.mem_of_getElem? (i := 18) rfl)
theorem gw_939 : Cond.selects RX11 yX11_cell yX11_cell ∈ GW := gc_23 _ (List.mem_of_getElem? (i := 19) rfl)
theorem gw_940 : Cond.methodLink RL 73 yX10_tell ∈ GW := gc_23 _ (List.mem_of_getElem? (i := 20) rfl)
theorem gw_941 : Cond.instanceMethod yX10_tell ∈ GW := gc_23 _ (List.mem_of_getElem? (i := 21) rfl)
theorem gw_942 : Cond.selects RX10 yX10_tell yX10_tell ∈ GW := gc_23 _ (List.mem_of_getElem? (i := 22) rfl)
theorem gw_943 : Cond.methodLink RL 77 yX11_tell ∈ GW := gc_23 _ (List.mem_of_getElem? (i := 23) rfl)
theorem gw_944 : Cond.instanceMethod yX11_tell ∈ GW := gc_23 _ (List.mem_of_getElem? (i := 24) rfl)
theorem gw_945 : Cond.selects RX11 yX11_tell yX11_tell ∈ GW := gc_23 _ (List.mem_of_getElem? (i := 25) rfl)
theorem gw_946 : Cond.methodLink RL 78 yX10_count ∈ GW := gc_23 _ (List.mem_of_getElem? (i := 26) rfl)
theorem gw_947 : Cond.instanceMethod yX10_count ∈ GW := gc_23 _ (List.mem_of_getElem? (i := 27) rfl)
theorem gw_948 : Cond.selects RX10 yX10_count yX10_count ∈ GW := gc_23 _ (List.mem_of_getElem? (i := 28) rfl)
theorem gw_949 : Cond.methodLink RL 81 yX11_count ∈ GW := gc_23 _ (List.mem_of_getElem? (i := 29) rfl)
theorem gw_950 : Cond.instanceMethod yX11_count ∈ GW := gc_23 _ (List.mem_of_getElem? (i := 30) rfl)
theorem gw_951 : Cond.selects RX11 yX11_count yX11_count ∈ GW := gc_23 _ (List.mem_of_getElem? (i := 31) rfl)
theorem gw_952 : Cond.methodLink RL 82 yX10_passage ∈ GW := gc_23 _ (List.mem_of_getElem? (i := 32) rfl)
theorem gw_953 : Cond.instanceMethod yX10_passage ∈ GW := gc_23 _ (List.mem_of_getElem? (i := 33) rfl)
theorem gw_954 : Cond.selects RX10 yX10_passage yX10_passage ∈ GW := gc_23 _ (List.mem_of_getElem? (i := 34) rfl)
theorem gw_955 : Cond.methodLink RL 85 yX11_passage ∈ GW := gc_23 _ (List.mem_of_getElem? (i := 35) rfl)
theorem gw_956 : Cond.instanceMethod yX11_passage ∈ GW := gc_23 _ (List.mem_of_getElem? (i := 36) rfl)
theorem gw_957 : Cond.selects RX11 yX11_passage yX11_passage ∈ GW := gc_23 _ (List.mem_of_getElem? (i := 37) rfl)
theorem gw_958 : Cond.methodLink RL 86 yX10_clear ∈ GW := gc_23 _ (List.mem_of_getElem? (i := 38) rfl)
theorem gw_959 : Cond.instanceMethod yX10_clear ∈ GW := gc_23 _ (List.mem_of_getElem? (i := 39) rfl)
theorem gw_960 : Cond.selects RX10 yX10_clear yX10_clear ∈ GW := gc_24 _ (List.mem_of_getElem? (i := 0) rfl)
theorem gw_961 : Cond.methodLink RL 89 yX11_clear ∈ GW := gc_24 _ (List.mem_of_getElem? (i := 1) rfl)
theorem gw_962 : Cond.instanceMethod yX11_clear ∈ GW := gc_24 _ (List.mem_of_getElem? (i := 2) rfl)
theorem gw_963 : Cond.selects RX11 yX11_clear yX11_clear ∈ GW := gc_24 _ (List.mem_of_getElem? (i := 3) rfl)
theorem gw_964 : Cond.methodLink RL 90 yX10_turns ∈ GW := gc_24 _ (List.mem_of_getElem? (i := 4) rfl)
theorem gw_965 : Cond.instanceMethod yX10_turns ∈ GW := gc_24 _ (List.mem_of_getElem? (i := 5) rfl)
theorem gw_966 : Cond.selects RX10 yX10_turns yX10_turns ∈ GW := gc_24 _ (List.mem_of_getElem? (i := 6) rfl)
theorem gw_967 : Cond.methodLink RL 93 yX11_turns ∈ GW := gc_24 _ (List.mem_of_getElem? (i := 7) rfl)
theorem gw_968 : Cond.instanceMethod yX11_turns ∈ GW := gc_24 _ (List.mem_of_getElem? (i := 8) rfl)
theorem gw_969 : Cond.selects RX11 yX11_turns yX11_turns ∈ GW := gc_24 _ (List.mem_of_getElem? (i := 9) rfl)
theorem gw_970 : Cond.methodLink RL 94 yX10_turn ∈ GW := gc_24 _ (List.mem_of_getElem? (i := 10) rfl)
theorem gw_971 : Cond.instanceMethod yX10_turn ∈ GW := gc_24 _ (List.mem_of_getElem? (i := 11) rfl)
theorem gw_972 : Cond.selects RX10 yX10_turn yX10_turn ∈ GW := gc_24 _ (List.mem_of_getElem? (i := 12) rfl)
theorem gw_973 : Cond.methodLink RL 97 yX11_turn ∈ GW := gc_24 _ (List.mem_of_getElem? (i := 13) rfl)
theorem gw_974 : Cond.instanceMethod yX11_turn ∈ GW := gc_24 _ (List.mem_of_getElem? (i := 14) rfl)
theorem gw_975 : Cond.selects RX11 yX11_turn yX11_turn ∈ GW := gc_24 _ (List.mem_of_getElem? (i := 15) rfl)
theorem gw_976 : Cond.methodLink RL 98 yX10_cost ∈ GW := gc_24 _ (List.mem_of_getElem? (i := 16) rfl)
theorem gw_977 : Cond.instanceMethod yX10_cost ∈ GW := gc_24 _ (List.mem_of_getElem? (i := 17) rfl)
theorem gw_978 : Cond.selects RX10 yX10_cost yX10_cost ∈ GW := gc_24 _ (List.mem_of_getElem? (i := 18) rfl)
theorem gw_979 : Cond.methodLink RL 101 yX11_cost ∈ GW := gc_24 _ (List.mem_of_getElem? (i := 19) rfl)
theorem gw_980 : Cond.instanceMethod yX11_cost ∈ GW := gc_24 _ (List.mem_of_getElem? (i := 20) rfl)
theorem gw_981 : Cond.selects RX11 yX11_cost yX11_cost ∈ GW := gc_24 _ (List.mem_of_getElem? (i := 21) rfl)
theorem gw_982 : Cond.methodLink RL 102 yX10_image ∈ GW := gc_24 _ (List.mem_of_getElem? (i := 22) rfl)
theorem gw_983 : Cond.instanceMethod yX10_image ∈ GW := gc_24 _ (List.mem_of_getElem? (i := 23) rfl)
theorem gw_984 : Cond.selects RX10 yX10_image yX10_image ∈ GW := gc_24 _ (List.mem_of_getElem? (i := 24) rfl)
theorem gw_985 : Cond.methodLink RL 106 yX11_image ∈ GW := gc_24 _ (List.mem_of_getElem? (i := 25) rfl)
theorem gw_986 : Cond.instanceMethod yX11_image ∈ GW := gc_24 _ (List.mem_of_getElem? (i := 26) rfl)
theorem gw_987 : Cond.selects RX11 yX11_image yX11_image ∈ GW := gc_24 _ (List.mem_of_getElem? (i := 27) rfl)
theorem gw_988 : Cond.methodLink RL 107 yX10_again ∈ GW := gc_24 _ (List.mem_of_getElem? (i := 28) rfl)
theorem gw_989 : Cond.instanceMethod yX10_again ∈ GW := gc_24 _ (List.mem_of_getElem? (i := 29) rfl)
theorem gw_990 : Cond.selects RX10 yX10_again yX10_again ∈ GW := gc_24 _ (List.mem_of_getElem? (i := 30) rfl)
theorem gw_991 : Cond.methodLink RL 110 yX11_again ∈ GW := gc_24 _ (List.mem_of_getElem? (i := 31) rfl)
theorem gw_992 : Cond.instanceMethod yX11_again ∈ GW := gc_24 _ (List.mem_of_getElem? (i := 32) rfl)
theorem gw_993 : Cond.selects RX11 yX11_again yX11_again ∈ GW := gc_24 _ (List.mem_of_getElem? (i := 33) rfl)
theorem gg_0 : gC0.all goodWord = true := by decide +kernel
theorem gg_1 : gC1.all goodWord = true := by decide +kernel
theorem gg_2 : gC2.all goodWord = true := by decide +kernel
theorem gg_3 : gC3.all goodWord = true := by decide +kernel
theorem gg_4 : gC4.all goodWord = true := by decide +kernel
theorem gg_5 : gC5.all goodWord = true := by decide +kernel
theorem gg_6 : gC6.all goodWord = true := by decide +kernel
theorem gg_7 : gC7.all goodWord = true := by decide +kernel
theorem gg_8 : gC8.all goodWord = true := by decide +kernel
theorem gg_9 : gC9.all goodWord = true := by decide +kernel
theorem gg_10 : gC10.all goodWord = true := by decide +kernel
theorem gg_11 : gC11.all goodWord = true := by decide +kernel
theorem gg_12 : gC12.all goodWord = true := by decide +kernel
theorem gg_13 : gC13.all goodWord = true := by decide +kernel
theorem gg_14 : gC14.all goodWord = true := by decide +kernel
theorem gg_15 : gC15.all goodWord = true := by decide +kernel
theorem gg_16 : gC16.all goodWord = true := by decide +kernel
theorem gg_17 : gC17.all goodWord = true := by decide +kernel
theorem gg_18 : gC18.all goodWord = true := by decide +kernel
theorem gg_19 : gC19.all goodWord = true := by decide +kernel
theorem gg_20 : gC20.all goodWord = true := by decide +kernel
theorem gg_21 : gC21.all goodWord = true := by decide +kernel
theorem gg_22 : gC22.all goodWord = true := by decide +kernel
theorem gg_23 : gC23.all goodWord = true := by decide +kernel
theorem gg_24 : gC24.all goodWord = true := by decide +kernel
theorem gg_u : gU.all goodWord = true := by decide +kernel
theorem gh_24 : gT24.all goodWord = true := by rw [gT24, List.all_append, gg_24, gg_u]; rfl
theorem gh_23 : gT23.all goodWord = true := by rw [gT23, List.all_append, gg_23, gh_24]; rfl
theorem gh_22 : gT22.all goodWord = true := by rw [gT22, List.all_append, gg_22, gh_23]; rfl
theorem gh_21 : gT21.all goodWord = true := by rw [gT21, List.all_append, gg_21, gh_22]; rfl
theorem gh_20 : gT20.all goodWord = true := by rw [gT20, List.all_append, gg_20, gh_21]; rfl
theorem gh_19 : gT19.all goodWord = true := by rw [gT19, List.all_append, gg_19, gh_20]; rfl
theorem gh_18 : gT18.all goodWord = true := by rw [gT18, List.all_append, gg_18, gh_19]; rfl
theorem gh_17 : gT17.all goodWord = true := by rw [gT17, List.all_append, gg_17, gh_18]; rfl
theorem gh_16 : gT16.all goodWord = true := by rw [gT16, List.all_append, gg_16, gh_17]; rfl
theorem gh_15 : gT15.all goodWord = true := by rw [gT15, List.all_append, gg_15, gh_16]; rfl
theorem gh_14 : gT14.all goodWord = true := by rw [gT14, List.all_append, gg_14, gh_15]; rfl
theorem gh_13 : gT13.all goodWord = true := by rw [gT13, List.all_append, gg_13, gh_14]; rfl
theorem gh_12 : gT12.all goodWord = true := by rw [gT12, List.all_append, gg_12, gh_13]; rfl
theorem gh_11 : gT11.all goodWord = true := by rw [gT11, List.all_append, gg_11, gh_12]; rfl
theorem gh_10 : gT10.all goodWord = true := by rw [gT10, List.all_append, gg_10, gh_11]; rfl
theorem gh_9 : gT9.all goodWord = true := by rw [gT9, List.all_append, gg_9, gh_10]; rfl
theorem gh_8 : gT8.all goodWord = true := by rw [gT8, List.all_append, gg_8, gh_9]; rfl
theorem gh_7 : gT7.all goodWord = true := by rw [gT7, List.all_append, gg_7, gh_8]; rfl
theorem gh_6 : gT6.all goodWord = true := by rw [gT6, List.all_append, gg_6, gh_7]; rfl
theorem gh_5 : gT5.all goodWord = true := by rw [gT5, List.all_append, gg_5, gh_6]; rfl
theorem gh_4 : gT4.all goodWord = true := by rw [gT4, List.all_append, gg_4, gh_5]; rfl
theorem gh_3 : gT3.all goodWord = true := by rw [gT3, List.all_append, gg_3, gh_4]; rfl
theorem gh_2 : gT2.all goodWord = true := by rw [gT2, List.all_append, gg_2, gh_3]; rfl
theorem gh_1 : gT1.all goodWord = true := by rw [gT1, List.all_append, gg_1, gh_2]; rfl
theorem gh_0 : gT0.all goodWord = true := by rw [gT0, List.all_append, gg_0, gh_1]; rfl
theorem gGood : ∀ w ∈ GW, (w.onTables && w.keeps) = true ∨ ∃ ty, w = .arrayClass ty := fun w h => good_of_word (List.all_eq_true.mp gh_0 w h)
theorem gGW : GoodIn GW GW := fun w h => ⟨h, gGood w h⟩
/-- a method's own words: its code, and all -/
theorem gM {c : Cond} (h : c ∈ GW) : GoodIn GW (c :: GW) := fun w hw => (List.mem_cons.mp hw).elim (fun e => e ▸ ⟨h, gGood c h⟩) (fun h2 => ⟨h2, gGood w h2⟩)
theorem gV {own : String} {idx : Nat} {C : String} {y : MethodName} {ws : List Cond} (h1 : Cond.methodLink own idx y ∈ GW) (h2 : Cond.instanceMethod y ∈ GW) (h3 : Cond.selects C y y ∈ GW) (h4 : Cond.initialized C ∈ GW) (hg : GoodIn GW ws) : GoodIn GW (wsV own idx C y ws) := fun w hw => by
  rcases List.mem_append.mp hw with h | h
  · have hm : w ∈ GW := by
      rcases List.mem_cons.mp h with e | h
      · exact e ▸ h1
      rcases List.mem_cons.mp h with e | h
      · exact e ▸ h2
      rcases List.mem_cons.mp h with e | h
      · exact e ▸ h3
      rcases List.mem_cons.mp h with e | h
      · exact e ▸ h4
      · exact absurd h List.not_mem_nil
    exact ⟨hm, gGood w hm⟩
  · exact hg w h
theorem gS {own : String} {idx : Nat} {y : MethodName} {ws : List Cond} (h1 : Cond.methodLink own idx y ∈ GW) (h2 : Cond.static y ∈ GW) (h4 : Cond.initialized y.cls ∈ GW) (hg : GoodIn GW ws) : GoodIn GW (va_wsS own idx y ws) := fun w hw => by
  rcases List.mem_append.mp hw with h | h
  · have hm : w ∈ GW := by
      rcases List.mem_cons.mp h with e | h
      · exact e ▸ h1
      rcases List.mem_cons.mp h with e | h
      · exact e ▸ h2
      rcases List.mem_cons.mp h with e | h
      · exact e ▸ h4
      · exact absurd h List.not_mem_nil
    exact ⟨hm, gGood w hm⟩
  · exact hg w h
