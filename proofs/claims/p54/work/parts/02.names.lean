def RX0 : String := "OrchardRopeway$Crowd"
def TX0 : u_T := fun k => match k with
  | 0 => ("OrchardRopeway$Crowd", "numbers", "[I", true)
  | 1 => ("OrchardRopeway$Crowd", "weights", "[I", true)
  | 2 => ("OrchardRopeway$Crowd", "stations", "[I", true)
  | 3 => ("OrchardRopeway$Crowd", "destinations", "[I", true)
  | 4 => ("OrchardRopeway$Crowd", "comings", "[I", true)
  | 5 => ("OrchardRopeway$Crowd", "cabins", "[I", true)
  | 6 => ("OrchardRopeway$Crowd", "boardings", "[I", true)
  | 7 => ("OrchardRopeway$Crowd", "count", "I", false)
  | _ => ("OrchardRopeway$Crowd", "nextBoarding", "I", false)
def tyX0 : Nat → FieldType := fun k => match k with
  | 0 => .array .int
  | 1 => .array .int
  | 2 => .array .int
  | 3 => .array .int
  | 4 => .array .int
  | 5 => .array .int
  | 6 => .array .int
  | 7 => .int
  | _ => .int
abbrev wsX00 : List Cond := u_ws RX0 TX0 9
theorem nmX0 : ∀ a, a < 9 → ∀ b, b < 9 → a ≠ b → (TX0 a).2.1 ≠ (TX0 b).2.1 := by decide +kernel
theorem tyX0_ok : ∀ k, k < 9 → parseFieldDescriptor (TX0 k).2.2.1 = some (tyX0 k) := by decide +kernel
abbrev cX0_init : ByteArray := prog_2_method_1_code
def yX0_init : MethodName := ⟨RX0, "<init>", "()V"⟩
abbrev cX0_copyFrom : ByteArray := prog_2_method_2_code
def yX0_copyFrom : MethodName := ⟨RX0, "copyFrom", "(LOrchardRopeway$Crowd;)V"⟩
abbrev cX0_copyRow : ByteArray := prog_2_method_3_code
def yX0_copyRow : MethodName := ⟨RX0, "copyRow", "(LOrchardRopeway$Crowd;II)V"⟩
abbrev cX0_append : ByteArray := prog_2_method_4_code
def yX0_append : MethodName := ⟨RX0, "append", "(IIIII)V"⟩
abbrev cX0_drop : ByteArray := prog_2_method_5_code
def yX0_drop : MethodName := ⟨RX0, "drop", "(I)V"⟩
abbrev cX0_unload : ByteArray := prog_2_method_6_code
def yX0_unload : MethodName := ⟨RX0, "unload", "(III)I"⟩
abbrev cX0_load : ByteArray := prog_2_method_7_code
def yX0_load : MethodName := ⟨RX0, "load", "(IIZI)V"⟩
abbrev cX0_waitsAt : ByteArray := prog_2_method_8_code
def yX0_waitsAt : MethodName := ⟨RX0, "waitsAt", "(II)Z"⟩
abbrev cX0_rowOf : ByteArray := prog_2_method_9_code
def yX0_rowOf : MethodName := ⟨RX0, "rowOf", "(I)I"⟩
abbrev cX0_countWaiting : ByteArray := prog_2_method_10_code
def yX0_countWaiting : MethodName := ⟨RX0, "countWaiting", "(I)I"⟩
abbrev cX0_waitingRow : ByteArray := prog_2_method_11_code
def yX0_waitingRow : MethodName := ⟨RX0, "waitingRow", "(II)I"⟩
abbrev cX0_countRiders : ByteArray := prog_2_method_12_code
def yX0_countRiders : MethodName := ⟨RX0, "countRiders", "(I)I"⟩
abbrev cX0_fullWeight : ByteArray := prog_2_method_13_code
def yX0_fullWeight : MethodName := ⟨RX0, "fullWeight", "(I)I"⟩
abbrev cX0_riderRow : ByteArray := prog_2_method_14_code
def yX0_riderRow : MethodName := ⟨RX0, "riderRow", "(II)I"⟩
abbrev cX0_countBoardedBefore : ByteArray := prog_2_method_15_code
def yX0_countBoardedBefore : MethodName := ⟨RX0, "countBoardedBefore", "(I)I"⟩
abbrev cX0_rowByWeight : ByteArray := prog_2_method_16_code
def yX0_rowByWeight : MethodName := ⟨RX0, "rowByWeight", "(I)I"⟩
abbrev cX0_countHeavier : ByteArray := prog_2_method_17_code
def yX0_countHeavier : MethodName := ⟨RX0, "countHeavier", "(I)I"⟩
abbrev cX0_isOrdered : ByteArray := prog_2_method_18_code
def yX0_isOrdered : MethodName := ⟨RX0, "isOrdered", "(I)Z"⟩
def RX1 : String := "OrchardRopeway$History"
def TX1 : u_T := fun k => match k with
  | 0 => ("OrchardRopeway$History", "states", "[LOrchardRopeway$Line;", true)
  | _ => ("OrchardRopeway$History", "count", "I", false)
def tyX1 : Nat → FieldType := fun k => match k with
  | 0 => .array (.object "OrchardRopeway$Line")
  | _ => .int
abbrev wsX10 : List Cond := u_ws RX1 TX1 2
theorem nmX1 : ∀ a, a < 2 → ∀ b, b < 2 → a ≠ b → (TX1 a).2.1 ≠ (TX1 b).2.1 := by decide +kernel
theorem tyX1_ok : ∀ k, k < 2 → parseFieldDescriptor (TX1 k).2.2.1 = some (tyX1 k) := by decide +kernel
abbrev cX1_init : ByteArray := prog_3_method_1_code
def yX1_init : MethodName := ⟨RX1, "<init>", "()V"⟩
abbrev cX1_remember : ByteArray := prog_3_method_2_code
def yX1_remember : MethodName := ⟨RX1, "remember", "(LOrchardRopeway$Line;)V"⟩
abbrev cX1_takeBack : ByteArray := prog_3_method_3_code
def yX1_takeBack : MethodName := ⟨RX1, "takeBack", "(LOrchardRopeway$Line;)V"⟩
def RX2 : String := "OrchardRopeway$Line"
def TX2 : u_T := fun k => match k with
  | 0 => ("OrchardRopeway$Line", "slopes", "[I", true)
  | 1 => ("OrchardRopeway$Line", "crowd", "LOrchardRopeway$Crowd;", true)
  | 2 => ("OrchardRopeway$Line", "time", "I", false)
  | 3 => ("OrchardRopeway$Line", "place", "I", false)
  | 4 => ("OrchardRopeway$Line", "up", "Z", false)
  | 5 => ("OrchardRopeway$Line", "capacity", "I", false)
  | 6 => ("OrchardRopeway$Line", "heat", "I", false)
  | 7 => ("OrchardRopeway$Line", "blocked", "Z", false)
  | 8 => ("OrchardRopeway$Line", "came", "I", false)
  | 9 => ("OrchardRopeway$Line", "arrived", "I", false)
  | 10 => ("OrchardRopeway$Line", "gone", "I", false)
  | 11 => ("OrchardRopeway$Line", "meetings", "I", false)
  | 12 => ("OrchardRopeway$Line", "energy", "J", false)
  | _ => ("OrchardRopeway$Line", "journeyMinutes", "J", false)
def tyX2 : Nat → FieldType := fun k => match k with
  | 0 => .array .int
  | 1 => .object "OrchardRopeway$Crowd"
  | 2 => .int
  | 3 => .int
  | 4 => .boolean
  | 5 => .int
  | 6 => .int
  | 7 => .boolean
  | 8 => .int
  | 9 => .int
  | 10 => .int
  | 11 => .int
  | 12 => .long
  | _ => .long
abbrev wsX20 : List Cond := u_ws RX2 TX2 14
theorem nmX2 : ∀ a, a < 14 → ∀ b, b < 14 → a ≠ b → (TX2 a).2.1 ≠ (TX2 b).2.1 := by decide +kernel
theorem tyX2_ok : ∀ k, k < 14 → parseFieldDescriptor (TX2 k).2.2.1 = some (tyX2 k) := by decide +kernel
abbrev cX2_init : ByteArray := prog_4_method_1_code
def yX2_init : MethodName := ⟨RX2, "<init>", "()V"⟩
abbrev cX2_copyFrom : ByteArray := prog_4_method_2_code
def yX2_copyFrom : MethodName := ⟨RX2, "copyFrom", "(LOrchardRopeway$Line;)V"⟩
abbrev cX2_faultOf : ByteArray := prog_4_method_3_code
def yX2_faultOf : MethodName := ⟨RX2, "faultOf", "(IIII)I"⟩
abbrev cX2_apply : ByteArray := prog_4_method_4_code
def yX2_apply : MethodName := ⟨RX2, "apply", "(IIII)I"⟩
abbrev cX2_faultOfAdding : ByteArray := prog_4_method_5_code
def yX2_faultOfAdding : MethodName := ⟨RX2, "faultOfAdding", "(III)I"⟩
abbrev cX2_faultOfRemoving : ByteArray := prog_4_method_6_code
def yX2_faultOfRemoving : MethodName := ⟨RX2, "faultOfRemoving", "(I)I"⟩
abbrev cX2_faultOfSlope : ByteArray := prog_4_method_7_code
def yX2_faultOfSlope : MethodName := ⟨RX2, "faultOfSlope", "(II)I"⟩
abbrev cX2_faultOfTurning : ByteArray := prog_4_method_8_code
def yX2_faultOfTurning : MethodName := ⟨RX2, "faultOfTurning", "()I"⟩
abbrev cX2_faultOfCapacity : ByteArray := prog_4_method_9_code
def yX2_faultOfCapacity : MethodName := ⟨RX2, "faultOfCapacity", "(I)I"⟩
abbrev cX2_letCome : ByteArray := prog_4_method_10_code
def yX2_letCome : MethodName := ⟨RX2, "letCome", "(III)I"⟩
abbrev cX2_letGo : ByteArray := prog_4_method_11_code
def yX2_letGo : MethodName := ⟨RX2, "letGo", "(I)I"⟩
abbrev cX2_replaceSlope : ByteArray := prog_4_method_12_code
def yX2_replaceSlope : MethodName := ⟨RX2, "replaceSlope", "(II)I"⟩
abbrev cX2_replaceCapacity : ByteArray := prog_4_method_13_code
def yX2_replaceCapacity : MethodName := ⟨RX2, "replaceCapacity", "(I)I"⟩
abbrev cX2_letPass : ByteArray := prog_4_method_14_code
def yX2_letPass : MethodName := ⟨RX2, "letPass", "(I)I"⟩
abbrev cX2_coolDown : ByteArray := prog_4_method_15_code
def yX2_coolDown : MethodName := ⟨RX2, "coolDown", "()V"⟩
abbrev cX2_move : ByteArray := prog_4_method_16_code
def yX2_move : MethodName := ⟨RX2, "move", "(I)V"⟩
abbrev cX2_stop : ByteArray := prog_4_method_17_code
def yX2_stop : MethodName := ⟨RX2, "stop", "()V"⟩
abbrev cX2_isAtStations : ByteArray := prog_4_method_18_code
def yX2_isAtStations : MethodName := ⟨RX2, "isAtStations", "()Z"⟩
abbrev cX2_isAtEnds : ByteArray := prog_4_method_19_code
def yX2_isAtEnds : MethodName := ⟨RX2, "isAtEnds", "()Z"⟩
abbrev cX2_placeOf : ByteArray := prog_4_method_20_code
def yX2_placeOf : MethodName := ⟨RX2, "placeOf", "(I)I"⟩
abbrev cX2_isUp : ByteArray := prog_4_method_21_code
def yX2_isUp : MethodName := ⟨RX2, "isUp", "(I)Z"⟩
abbrev cX2_segmentAhead : ByteArray := prog_4_method_22_code
def yX2_segmentAhead : MethodName := ⟨RX2, "segmentAhead", "(I)I"⟩
abbrev cX2_slopeOf : ByteArray := prog_4_method_23_code
def yX2_slopeOf : MethodName := ⟨RX2, "slopeOf", "(I)I"⟩
abbrev cX2_imbalanceNow : ByteArray := prog_4_method_24_code
def yX2_imbalanceNow : MethodName := ⟨RX2, "imbalanceNow", "()I"⟩
abbrev cX2_unitsByFormula : ByteArray := prog_4_method_25_code
def yX2_unitsByFormula : MethodName := ⟨RX2, "unitsByFormula", "(II)I"⟩
abbrev cX2_unitsByMoving : ByteArray := prog_4_method_26_code
def yX2_unitsByMoving : MethodName := ⟨RX2, "unitsByMoving", "(II)I"⟩
abbrev cX2_sumOfParts : ByteArray := prog_4_method_27_code
def yX2_sumOfParts : MethodName := ⟨RX2, "sumOfParts", "()I"⟩
abbrev cX2_hasSoundValues : ByteArray := prog_4_method_28_code
def yX2_hasSoundValues : MethodName := ⟨RX2, "hasSoundValues", "()Z"⟩
abbrev cX2_hasSoundCabins : ByteArray := prog_4_method_29_code
def yX2_hasSoundCabins : MethodName := ⟨RX2, "hasSoundCabins", "()Z"⟩
def RX3 : String := "OrchardRopeway$OutputLine"
def TX3 : u_T := fun k => match k with
  | 0 => ("OrchardRopeway$OutputLine", "signs", "[C", true)
  | _ => ("OrchardRopeway$OutputLine", "length", "I", false)
def tyX3 : Nat → FieldType := fun k => match k with
  | 0 => .array .char
  | _ => .int
abbrev wsX30 : List Cond := u_ws RX3 TX3 2
theorem nmX3 : ∀ a, a < 2 → ∀ b, b < 2 → a ≠ b → (TX3 a).2.1 ≠ (TX3 b).2.1 := by decide +kernel
theorem tyX3_ok : ∀ k, k < 2 → parseFieldDescriptor (TX3 k).2.2.1 = some (tyX3 k) := by decide +kernel
abbrev cX3_init : ByteArray := prog_5_method_1_code
def yX3_init : MethodName := ⟨RX3, "<init>", "()V"⟩
abbrev cX3_clear : ByteArray := prog_5_method_2_code
def yX3_clear : MethodName := ⟨RX3, "clear", "()V"⟩
abbrev cX3_put : ByteArray := prog_5_method_3_code
def yX3_put : MethodName := ⟨RX3, "put", "(C)V"⟩
abbrev cX3_putNumber : ByteArray := prog_5_method_4_code
def yX3_putNumber : MethodName := ⟨RX3, "putNumber", "(I)V"⟩
def RX4 : String := "OrchardRopeway$Program"
def TX4 : u_T := fun k => match k with
  | 0 => ("OrchardRopeway$Program", "text", "[C", true)
  | 1 => ("OrchardRopeway$Program", "kinds", "[I", true)
  | 2 => ("OrchardRopeway$Program", "firsts", "[I", true)
  | 3 => ("OrchardRopeway$Program", "seconds", "[I", true)
  | 4 => ("OrchardRopeway$Program", "thirds", "[I", true)
  | 5 => ("OrchardRopeway$Program", "length", "I", false)
  | 6 => ("OrchardRopeway$Program", "position", "I", false)
  | _ => ("OrchardRopeway$Program", "commands", "I", false)
def tyX4 : Nat → FieldType := fun k => match k with
  | 0 => .array .char
  | 1 => .array .int
  | 2 => .array .int
  | 3 => .array .int
  | 4 => .array .int
  | 5 => .int
  | 6 => .int
  | _ => .int
abbrev wsX40 : List Cond := u_ws RX4 TX4 8
theorem nmX4 : ∀ a, a < 8 → ∀ b, b < 8 → a ≠ b → (TX4 a).2.1 ≠ (TX4 b).2.1 := by decide +kernel
theorem tyX4_ok : ∀ k, k < 8 → parseFieldDescriptor (TX4 k).2.2.1 = some (tyX4 k) := by decide +kernel
abbrev cX4_init : ByteArray := prog_6_method_1_code
def yX4_init : MethodName := ⟨RX4, "<init>", "()V"⟩
abbrev cX4_append : ByteArray := prog_6_method_2_code
def yX4_append : MethodName := ⟨RX4, "append", "(C)V"⟩
abbrev cX4_clear : ByteArray := prog_6_method_3_code
def yX4_clear : MethodName := ⟨RX4, "clear", "()V"⟩
abbrev cX4_parse : ByteArray := prog_6_method_4_code
def yX4_parse : MethodName := ⟨RX4, "parse", "()Z"⟩
abbrev cX4_readCommand : ByteArray := prog_6_method_5_code
def yX4_readCommand : MethodName := ⟨RX4, "readCommand", "()Z"⟩
abbrev cX4_readForm : ByteArray := prog_6_method_6_code
def yX4_readForm : MethodName := ⟨RX4, "readForm", "()Z"⟩
abbrev cX4_readStart : ByteArray := prog_6_method_7_code
def yX4_readStart : MethodName := ⟨RX4, "readStart", "(ILjava/lang/String;)Z"⟩
abbrev cX4_readMinutes : ByteArray := prog_6_method_8_code
def yX4_readMinutes : MethodName := ⟨RX4, "readMinutes", "()Z"⟩
abbrev cX4_readWord : ByteArray := prog_6_method_9_code
def yX4_readWord : MethodName := ⟨RX4, "readWord", "(Ljava/lang/String;)Z"⟩
abbrev cX4_readDigits : ByteArray := prog_6_method_10_code
def yX4_readDigits : MethodName := ⟨RX4, "readDigits", "([II)Z"⟩
abbrev cX4_signAt : ByteArray := prog_6_method_11_code
def yX4_signAt : MethodName := ⟨RX4, "signAt", "(I)C"⟩
abbrev cX4_isDigit : ByteArray := prog_6_method_12_code
def yX4_isDigit : MethodName := ⟨RX4, "isDigit", "(C)Z"⟩
def RX5 : String := "OrchardRopeway"
def TX5 : u_T := fun k => match k with
  | 0 => ("OrchardRopeway", "line", "LOrchardRopeway$Line;", true)
  | 1 => ("OrchardRopeway", "copy", "LOrchardRopeway$Line;", true)
  | 2 => ("OrchardRopeway", "saved", "LOrchardRopeway$Line;", true)
  | 3 => ("OrchardRopeway", "isSaved", "Z", false)
  | 4 => ("OrchardRopeway", "history", "LOrchardRopeway$History;", true)
  | 5 => ("OrchardRopeway", "output", "LOrchardRopeway$OutputLine;", true)
  | 6 => ("OrchardRopeway", "program", "LOrchardRopeway$Program;", true)
  | 7 => ("OrchardRopeway", "recordedPosition", "I", false)
  | _ => ("OrchardRopeway", "recordedCommand", "I", false)
def tyX5 : Nat → FieldType := fun k => match k with
  | 0 => .object "OrchardRopeway$Line"
  | 1 => .object "OrchardRopeway$Line"
  | 2 => .object "OrchardRopeway$Line"
  | 3 => .boolean
  | 4 => .object "OrchardRopeway$History"
  | 5 => .object "OrchardRopeway$OutputLine"
  | 6 => .object "OrchardRopeway$Program"
  | 7 => .int
  | _ => .int
abbrev wsX50 : List Cond := u_ws RX5 TX5 9
theorem nmX5 : ∀ a, a < 9 → ∀ b, b < 9 → a ≠ b → (TX5 a).2.1 ≠ (TX5 b).2.1 := by decide +kernel
theorem tyX5_ok : ∀ k, k < 9 → parseFieldDescriptor (TX5 k).2.2.1 = some (tyX5 k) := by decide +kernel
abbrev cX5_init : ByteArray := prog_1_method_1_code
def yX5_init : MethodName := ⟨RX5, "<init>", "()V"⟩
abbrev cX5_addPicker : ByteArray := prog_1_method_2_code
def yX5_addPicker : MethodName := ⟨RX5, "addPicker", "(III)I"⟩
abbrev cX5_removePicker : ByteArray := prog_1_method_3_code
def yX5_removePicker : MethodName := ⟨RX5, "removePicker", "(I)I"⟩
abbrev cX5_setSlope : ByteArray := prog_1_method_4_code
def yX5_setSlope : MethodName := ⟨RX5, "setSlope", "(II)I"⟩
abbrev cX5_turn : ByteArray := prog_1_method_5_code
def yX5_turn : MethodName := ⟨RX5, "turn", "()Z"⟩
abbrev cX5_setCapacity : ByteArray := prog_1_method_6_code
def yX5_setCapacity : MethodName := ⟨RX5, "setCapacity", "(I)I"⟩
abbrev cX5_pass : ByteArray := prog_1_method_7_code
def yX5_pass : MethodName := ⟨RX5, "pass", "(I)I"⟩
abbrev cX5_time : ByteArray := prog_1_method_8_code
def yX5_time : MethodName := ⟨RX5, "time", "()I"⟩
abbrev cX5_slope : ByteArray := prog_1_method_9_code
def yX5_slope : MethodName := ⟨RX5, "slope", "(I)I"⟩
abbrev cX5_capacity : ByteArray := prog_1_method_10_code
def yX5_capacity : MethodName := ⟨RX5, "capacity", "()I"⟩
abbrev cX5_imbalance : ByteArray := prog_1_method_11_code
def yX5_imbalance : MethodName := ⟨RX5, "imbalance", "()I"⟩
abbrev cX5_heat : ByteArray := prog_1_method_12_code
def yX5_heat : MethodName := ⟨RX5, "heat", "()I"⟩
abbrev cX5_isBlocked : ByteArray := prog_1_method_13_code
def yX5_isBlocked : MethodName := ⟨RX5, "isBlocked", "()Z"⟩
abbrev cX5_blockedMinutes : ByteArray := prog_1_method_14_code
def yX5_blockedMinutes : MethodName := ⟨RX5, "blockedMinutes", "()I"⟩
abbrev cX5_blockedMinutesByPassing : ByteArray := prog_1_method_15_code
def yX5_blockedMinutesByPassing : MethodName := ⟨RX5, "blockedMinutesByPassing", "()I"⟩
abbrev cX5_place : ByteArray := prog_1_method_16_code
def yX5_place : MethodName := ⟨RX5, "place", "(I)I"⟩
abbrev cX5_goesUp : ByteArray := prog_1_method_17_code
def yX5_goesUp : MethodName := ⟨RX5, "goesUp", "(I)Z"⟩
abbrev cX5_station : ByteArray := prog_1_method_18_code
def yX5_station : MethodName := ⟨RX5, "station", "(I)I"⟩
abbrev cX5_nextSegment : ByteArray := prog_1_method_19_code
def yX5_nextSegment : MethodName := ⟨RX5, "nextSegment", "(I)I"⟩
abbrev cX5_cabinWeight : ByteArray := prog_1_method_20_code
def yX5_cabinWeight : MethodName := ⟨RX5, "cabinWeight", "(I)I"⟩
abbrev cX5_riders : ByteArray := prog_1_method_21_code
def yX5_riders : MethodName := ⟨RX5, "riders", "(I)I"⟩
abbrev cX5_riderAt : ByteArray := prog_1_method_22_code
def yX5_riderAt : MethodName := ⟨RX5, "riderAt", "(II)I"⟩
abbrev cX5_unitsUntil : ByteArray := prog_1_method_23_code
def yX5_unitsUntil : MethodName := ⟨RX5, "unitsUntil", "(II)I"⟩
abbrev cX5_unitsUntilByMoving : ByteArray := prog_1_method_24_code
def yX5_unitsUntilByMoving : MethodName := ⟨RX5, "unitsUntilByMoving", "(II)I"⟩
abbrev cX5_pickers : ByteArray := prog_1_method_25_code
def yX5_pickers : MethodName := ⟨RX5, "pickers", "()I"⟩
abbrev cX5_isPresent : ByteArray := prog_1_method_26_code
def yX5_isPresent : MethodName := ⟨RX5, "isPresent", "(I)Z"⟩
abbrev cX5_weight : ByteArray := prog_1_method_27_code
def yX5_weight : MethodName := ⟨RX5, "weight", "(I)I"⟩
abbrev cX5_destination : ByteArray := prog_1_method_28_code
def yX5_destination : MethodName := ⟨RX5, "destination", "(I)I"⟩
abbrev cX5_cabinOf : ByteArray := prog_1_method_29_code
def yX5_cabinOf : MethodName := ⟨RX5, "cabinOf", "(I)I"⟩
abbrev cX5_waiting : ByteArray := prog_1_method_30_code
def yX5_waiting : MethodName := ⟨RX5, "waiting", "(I)I"⟩
abbrev cX5_waitingAt : ByteArray := prog_1_method_31_code
def yX5_waitingAt : MethodName := ⟨RX5, "waitingAt", "(II)I"⟩
abbrev cX5_waitingStations : ByteArray := prog_1_method_32_code
def yX5_waitingStations : MethodName := ⟨RX5, "waitingStations", "()I"⟩
abbrev cX5_busiestStation : ByteArray := prog_1_method_33_code
def yX5_busiestStation : MethodName := ⟨RX5, "busiestStation", "()I"⟩
abbrev cX5_pickerByWeight : ByteArray := prog_1_method_34_code
def yX5_pickerByWeight : MethodName := ⟨RX5, "pickerByWeight", "(I)I"⟩
abbrev cX5_came : ByteArray := prog_1_method_35_code
def yX5_came : MethodName := ⟨RX5, "came", "()I"⟩
abbrev cX5_cameByParts : ByteArray := prog_1_method_36_code
def yX5_cameByParts : MethodName := ⟨RX5, "cameByParts", "()I"⟩
abbrev cX5_arrived : ByteArray := prog_1_method_37_code
def yX5_arrived : MethodName := ⟨RX5, "arrived", "()I"⟩
abbrev cX5_meetings : ByteArray := prog_1_method_38_code
def yX5_meetings : MethodName := ⟨RX5, "meetings", "()I"⟩
abbrev cX5_energy : ByteArray := prog_1_method_39_code
def yX5_energy : MethodName := ⟨RX5, "energy", "()J"⟩
abbrev cX5_isConsistent : ByteArray := prog_1_method_42_code
def yX5_isConsistent : MethodName := ⟨RX5, "isConsistent", "()Z"⟩
abbrev cX5_writeCabin : ByteArray := prog_1_method_43_code
def yX5_writeCabin : MethodName := ⟨RX5, "writeCabin", "(I)I"⟩
abbrev cX5_writeStations : ByteArray := prog_1_method_44_code
def yX5_writeStations : MethodName := ⟨RX5, "writeStations", "()I"⟩
abbrev cX5_type : ByteArray := prog_1_method_46_code
def yX5_type : MethodName := ⟨RX5, "type", "(C)I"⟩
abbrev cX5_run : ByteArray := prog_1_method_47_code
def yX5_run : MethodName := ⟨RX5, "run", "()I"⟩
abbrev cX5_undo : ByteArray := prog_1_method_50_code
def yX5_undo : MethodName := ⟨RX5, "undo", "()I"⟩
abbrev cX5_save : ByteArray := prog_1_method_51_code
def yX5_save : MethodName := ⟨RX5, "save", "()I"⟩
abbrev cX5_restore : ByteArray := prog_1_method_52_code
def yX5_restore : MethodName := ⟨RX5, "restore", "()I"⟩
abbrev cX5_change : ByteArray := prog_1_method_53_code
def yX5_change : MethodName := ⟨RX5, "change", "(IIII)I"⟩
abbrev cX5_firstFailure : ByteArray := prog_1_method_54_code
def yX5_firstFailure : MethodName := ⟨RX5, "firstFailure", "()I"⟩
abbrev cX5_refuse : ByteArray := prog_1_method_55_code
def yX5_refuse : MethodName := ⟨RX5, "refuse", "(I)V"⟩
abbrev cX5_requireCabin : ByteArray := prog_1_method_56_code
def yX5_requireCabin : MethodName := ⟨RX5, "requireCabin", "(I)V"⟩
abbrev cX5_requireStation : ByteArray := prog_1_method_57_code
def yX5_requireStation : MethodName := ⟨RX5, "requireStation", "(I)V"⟩
abbrev cX5_requireRow : ByteArray := prog_1_method_58_code
def yX5_requireRow : MethodName := ⟨RX5, "requireRow", "(I)I"⟩
abbrev cX5_isStation : ByteArray := prog_1_method_59_code
def yX5_isStation : MethodName := ⟨RX5, "isStation", "(I)Z"⟩
abbrev cX5_isSegment : ByteArray := prog_1_method_60_code
def yX5_isSegment : MethodName := ⟨RX5, "isSegment", "(I)Z"⟩
def RX6 : String := "OrchardRopewayModel"
def TX6 : u_T := fun k => match k with
  | _ => ("", "", "", false)
def tyX6 : Nat → FieldType := fun k => match k with
  | _ => .int
abbrev wsX60 : List Cond := u_ws RX6 TX6 0
theorem nmX6 : ∀ a, a < 0 → ∀ b, b < 0 → a ≠ b → (TX6 a).2.1 ≠ (TX6 b).2.1 := by decide +kernel
theorem tyX6_ok : ∀ k, k < 0 → parseFieldDescriptor (TX6 k).2.2.1 = some (tyX6 k) := by decide +kernel
def RJx145de : String := "java/io/Serializable"
def TJx145de : u_T := fun k => match k with
  | _ => ("", "", "", false)
def tyJx145de : Nat → FieldType := fun k => match k with
  | _ => .int
abbrev wsJx145de0 : List Cond := u_ws RJx145de TJx145de 0
theorem nmJx145de : ∀ a, a < 0 → ∀ b, b < 0 → a ≠ b → (TJx145de a).2.1 ≠ (TJx145de b).2.1 := by decide +kernel
theorem tyJx145de_ok : ∀ k, k < 0 → parseFieldDescriptor (TJx145de k).2.2.1 = some (tyJx145de k) := by decide +kernel
def RJ5 : String := "java/lang/AbstractStringBuilder"
def TJ5 : u_T := fun k => match k with
  | _ => ("", "", "", false)
def tyJ5 : Nat → FieldType := fun k => match k with
  | _ => .int
abbrev wsJ50 : List Cond := u_ws RJ5 TJ5 0
theorem nmJ5 : ∀ a, a < 0 → ∀ b, b < 0 → a ≠ b → (TJ5 a).2.1 ≠ (TJ5 b).2.1 := by decide +kernel
theorem tyJ5_ok : ∀ k, k < 0 → parseFieldDescriptor (TJ5 k).2.2.1 = some (tyJ5 k) := by decide +kernel
abbrev cJ5_init_d00df : ByteArray := prog_10_method_2_code
def yJ5_init_d00df : MethodName := ⟨RJ5, "<init>", "(I)V"⟩
abbrev cJ5_length_8abf5 : ByteArray := prog_10_method_6_code
def yJ5_length_8abf5 : MethodName := ⟨RJ5, "length", "()I"⟩
abbrev cJ5_ensureCapacityInternal_d00df : ByteArray := prog_10_method_9_code
def yJ5_ensureCapacityInternal_d00df : MethodName := ⟨RJ5, "ensureCapacityInternal", "(I)V"⟩
abbrev cJ5_newCapacity_0f7a4 : ByteArray := prog_10_method_10_code
def yJ5_newCapacity_0f7a4 : MethodName := ⟨RJ5, "newCapacity", "(I)I"⟩
abbrev cJ5_inflate_da8c8 : ByteArray := prog_10_method_11_code
def yJ5_inflate_da8c8 : MethodName := ⟨RJ5, "inflate", "()V"⟩
abbrev cJ5_append_cf1ce : ByteArray := prog_10_method_22_code
def yJ5_append_cf1ce : MethodName := ⟨RJ5, "append", "(Ljava/lang/String;)Ljava/lang/AbstractStringBuilder;"⟩
abbrev cJ5_appendNull_278bc : ByteArray := prog_10_method_26_code
def yJ5_appendNull_278bc : MethodName := ⟨RJ5, "appendNull", "()Ljava/lang/AbstractStringBuilder;"⟩
abbrev cJ5_append_c97b9 : ByteArray := prog_10_method_32_code
def yJ5_append_c97b9 : MethodName := ⟨RJ5, "append", "(I)Ljava/lang/AbstractStringBuilder;"⟩
abbrev cJ5_getValue_6d5f1 : ByteArray := prog_10_method_64_code
def yJ5_getValue_6d5f1 : MethodName := ⟨RJ5, "getValue", "()[B"⟩
abbrev cJ5_isLatin1_aae02 : ByteArray := prog_10_method_68_code
def yJ5_isLatin1_aae02 : MethodName := ⟨RJ5, "isLatin1", "()Z"⟩
abbrev cJ5_inflateIfNeededFor_a7421 : ByteArray := prog_10_method_71_code
def yJ5_inflateIfNeededFor_a7421 : MethodName := ⟨RJ5, "inflateIfNeededFor", "(Ljava/lang/String;)V"⟩
abbrev cJ5_putStringAt_47b60 : ByteArray := prog_10_method_73_code
def yJ5_putStringAt_47b60 : MethodName := ⟨RJ5, "putStringAt", "(ILjava/lang/String;)V"⟩
def RJx2cfe8 : String := "java/lang/Appendable"
def TJx2cfe8 : u_T := fun k => match k with
  | _ => ("", "", "", false)
def tyJx2cfe8 : Nat → FieldType := fun k => match k with
  | _ => .int
abbrev wsJx2cfe80 : List Cond := u_ws RJx2cfe8 TJx2cfe8 0
theorem nmJx2cfe8 : ∀ a, a < 0 → ∀ b, b < 0 → a ≠ b → (TJx2cfe8 a).2.1 ≠ (TJx2cfe8 b).2.1 := by decide +kernel
theorem tyJx2cfe8_ok : ∀ k, k < 0 → parseFieldDescriptor (TJx2cfe8 k).2.2.1 = some (tyJx2cfe8 k) := by decide +kernel
def RJx00060 : String := "java/lang/ArrayIndexOutOfBoundsException"
def TJx00060 : u_T := fun k => match k with
  | 0 => ("java/lang/Throwable", "backtrace", "Ljava/lang/Object;", false)
  | 1 => ("java/lang/Throwable", "detailMessage", "Ljava/lang/String;", false)
  | 2 => ("java/lang/Throwable", "cause", "Ljava/lang/Throwable;", false)
  | 3 => ("java/lang/Throwable", "stackTrace", "[Ljava/lang/StackTraceElement;", false)
  | 4 => ("java/lang/Throwable", "depth", "I", false)
  | _ => ("java/lang/Throwable", "suppressedExceptions", "Ljava/util/List;", false)
def tyJx00060 : Nat → FieldType := fun k => match k with
  | 0 => .object "java/lang/Object"
  | 1 => .object "java/lang/String"
  | 2 => .object "java/lang/Throwable"
  | 3 => .array (.object "java/lang/StackTraceElement")
  | 4 => .int
  | _ => .object "java/util/List"
abbrev wsJx000600 : List Cond := u_ws RJx00060 TJx00060 6
theorem nmJx00060 : ∀ a, a < 6 → ∀ b, b < 6 → a ≠ b → (TJx00060 a).2.1 ≠ (TJx00060 b).2.1 := by decide +kernel
theorem tyJx00060_ok : ∀ k, k < 6 → parseFieldDescriptor (TJx00060 k).2.2.1 = some (tyJx00060 k) := by decide +kernel
abbrev cJx00060_init_a7421 : ByteArray := prog_12_method_2_code
def yJx00060_init_a7421 : MethodName := ⟨RJx00060, "<init>", "(Ljava/lang/String;)V"⟩
def RJx9f9b0 : String := "java/lang/CharSequence"
def TJx9f9b0 : u_T := fun k => match k with
  | _ => ("", "", "", false)
def tyJx9f9b0 : Nat → FieldType := fun k => match k with
  | _ => .int
abbrev wsJx9f9b00 : List Cond := u_ws RJx9f9b0 TJx9f9b0 0
theorem nmJx9f9b0 : ∀ a, a < 0 → ∀ b, b < 0 → a ≠ b → (TJx9f9b0 a).2.1 ≠ (TJx9f9b0 b).2.1 := by decide +kernel
theorem tyJx9f9b0_ok : ∀ k, k < 0 → parseFieldDescriptor (TJx9f9b0 k).2.2.1 = some (tyJx9f9b0 k) := by decide +kernel
def RJx8e188 : String := "java/lang/Cloneable"
def TJx8e188 : u_T := fun k => match k with
  | _ => ("", "", "", false)
def tyJx8e188 : Nat → FieldType := fun k => match k with
  | _ => .int
abbrev wsJx8e1880 : List Cond := u_ws RJx8e188 TJx8e188 0
theorem nmJx8e188 : ∀ a, a < 0 → ∀ b, b < 0 → a ≠ b → (TJx8e188 a).2.1 ≠ (TJx8e188 b).2.1 := by decide +kernel
theorem tyJx8e188_ok : ∀ k, k < 0 → parseFieldDescriptor (TJx8e188 k).2.2.1 = some (tyJx8e188 k) := by decide +kernel
def RJxb160c : String := "java/lang/Comparable"
def TJxb160c : u_T := fun k => match k with
  | _ => ("", "", "", false)
def tyJxb160c : Nat → FieldType := fun k => match k with
  | _ => .int
abbrev wsJxb160c0 : List Cond := u_ws RJxb160c TJxb160c 0
theorem nmJxb160c : ∀ a, a < 0 → ∀ b, b < 0 → a ≠ b → (TJxb160c a).2.1 ≠ (TJxb160c b).2.1 := by decide +kernel
theorem tyJxb160c_ok : ∀ k, k < 0 → parseFieldDescriptor (TJxb160c k).2.2.1 = some (tyJxb160c k) := by decide +kernel
def RJ6 : String := "java/lang/Integer"
def TJ6 : u_T := fun k => match k with
  | _ => ("", "", "", false)
def tyJ6 : Nat → FieldType := fun k => match k with
  | _ => .int
abbrev wsJ60 : List Cond := u_ws RJ6 TJ6 0
theorem nmJ6 : ∀ a, a < 0 → ∀ b, b < 0 → a ≠ b → (TJ6 a).2.1 ≠ (TJ6 b).2.1 := by decide +kernel
theorem tyJ6_ok : ∀ k, k < 0 → parseFieldDescriptor (TJ6 k).2.2.1 = some (tyJ6 k) := by decide +kernel
abbrev cJ6_getChars_ba4f3 : ByteArray := prog_20_method_12_code
def yJ6_getChars_ba4f3 : MethodName := ⟨RJ6, "getChars", "(II[B)I"⟩
abbrev cJ6_stringSize_0f7a4 : ByteArray := prog_20_method_13_code
def yJ6_stringSize_0f7a4 : MethodName := ⟨RJ6, "stringSize", "(I)I"⟩
def RJ9 : String := "java/lang/Math"
def TJ9 : u_T := fun k => match k with
  | _ => ("", "", "", false)
def tyJ9 : Nat → FieldType := fun k => match k with
  | _ => .int
abbrev wsJ90 : List Cond := u_ws RJ9 TJ9 0
theorem nmJ9 : ∀ a, a < 0 → ∀ b, b < 0 → a ≠ b → (TJ9 a).2.1 ≠ (TJ9 b).2.1 := by decide +kernel
theorem tyJ9_ok : ∀ k, k < 0 → parseFieldDescriptor (TJ9 k).2.2.1 = some (tyJ9 k) := by decide +kernel
abbrev cJ9_max_7cf53 : ByteArray := prog_21_method_65_code
def yJ9_max_7cf53 : MethodName := ⟨RJ9, "max", "(II)I"⟩
abbrev cJ9_min_7cf53 : ByteArray := prog_21_method_69_code
def yJ9_min_7cf53 : MethodName := ⟨RJ9, "min", "(II)I"⟩
def RJxd2413 : String := "java/lang/Number"
def TJxd2413 : u_T := fun k => match k with
  | _ => ("", "", "", false)
def tyJxd2413 : Nat → FieldType := fun k => match k with
  | _ => .int
abbrev wsJxd24130 : List Cond := u_ws RJxd2413 TJxd2413 0
theorem nmJxd2413 : ∀ a, a < 0 → ∀ b, b < 0 → a ≠ b → (TJxd2413 a).2.1 ≠ (TJxd2413 b).2.1 := by decide +kernel
theorem tyJxd2413_ok : ∀ k, k < 0 → parseFieldDescriptor (TJxd2413 k).2.2.1 = some (tyJxd2413 k) := by decide +kernel
def RJ0 : String := "java/lang/String"
def TJ0 : u_T := fun k => match k with
  | 0 => ("java/lang/String", "value", "[B", true)
  | 1 => ("java/lang/String", "coder", "B", true)
  | 2 => ("java/lang/String", "hash", "I", false)
  | _ => ("java/lang/String", "hashIsZero", "Z", false)
def tyJ0 : Nat → FieldType := fun k => match k with
  | 0 => .array .byte
  | 1 => .byte
  | 2 => .int
  | _ => .boolean
abbrev wsJ00 : List Cond := u_ws RJ0 TJ0 4
theorem nmJ0 : ∀ a, a < 4 → ∀ b, b < 4 → a ≠ b → (TJ0 a).2.1 ≠ (TJ0 b).2.1 := by decide +kernel
theorem tyJ0_ok : ∀ k, k < 4 → parseFieldDescriptor (TJ0 k).2.2.1 = some (tyJ0 k) := by decide +kernel
abbrev cJ0_init_81219 : ByteArray := prog_24_method_53_code
def yJ0_init_81219 : MethodName := ⟨RJ0, "<init>", "(Ljava/lang/StringBuilder;)V"⟩
abbrev cJ0_length_8abf5 : ByteArray := prog_24_method_54_code
def yJ0_length_8abf5 : MethodName := ⟨RJ0, "length", "()I"⟩
abbrev cJ0_charAt_5068e : ByteArray := prog_24_method_56_code
def yJ0_charAt_5068e : MethodName := ⟨RJ0, "charAt", "(I)C"⟩
abbrev cJ0_getBytes_840e7 : ByteArray := prog_24_method_147_code
def yJ0_getBytes_840e7 : MethodName := ⟨RJ0, "getBytes", "([BIB)V"⟩
abbrev cJ0_init_db425 : ByteArray := prog_24_method_150_code
def yJ0_init_db425 : MethodName := ⟨RJ0, "<init>", "(Ljava/lang/AbstractStringBuilder;Ljava/lang/Void;)V"⟩
abbrev cJ0_coder_7d493 : ByteArray := prog_24_method_152_code
def yJ0_coder_7d493 : MethodName := ⟨RJ0, "coder", "()B"⟩
abbrev cJ0_isLatin1_aae02 : ByteArray := prog_24_method_154_code
def yJ0_isLatin1_aae02 : MethodName := ⟨RJ0, "isLatin1", "()Z"⟩
abbrev cJ0_checkIndex_df160 : ByteArray := prog_24_method_155_code
def yJ0_checkIndex_df160 : MethodName := ⟨RJ0, "checkIndex", "(II)V"⟩
abbrev cJ0_checkBoundsOffCount_cabcc : ByteArray := prog_24_method_157_code
def yJ0_checkBoundsOffCount_cabcc : MethodName := ⟨RJ0, "checkBoundsOffCount", "(III)I"⟩
abbrev cJ0_checkBoundsBeginEnd_23922 : ByteArray := prog_24_method_158_code
def yJ0_checkBoundsBeginEnd_23922 : MethodName := ⟨RJ0, "checkBoundsBeginEnd", "(III)V"⟩
def RJ4 : String := "java/lang/StringBuilder"
def TJ4 : u_T := fun k => match k with
  | 0 => ("java/lang/AbstractStringBuilder", "value", "[B", false)
  | 1 => ("java/lang/AbstractStringBuilder", "coder", "B", false)
  | 2 => ("java/lang/AbstractStringBuilder", "maybeLatin1", "Z", false)
  | _ => ("java/lang/AbstractStringBuilder", "count", "I", false)
def tyJ4 : Nat → FieldType := fun k => match k with
  | 0 => .array .byte
  | 1 => .byte
  | 2 => .boolean
  | _ => .int
abbrev wsJ40 : List Cond := u_ws RJ4 TJ4 4
theorem nmJ4 : ∀ a, a < 4 → ∀ b, b < 4 → a ≠ b → (TJ4 a).2.1 ≠ (TJ4 b).2.1 := by decide +kernel
theorem tyJ4_ok : ∀ k, k < 4 → parseFieldDescriptor (TJ4 k).2.2.1 = some (tyJ4 k) := by decide +kernel
abbrev cJ4_init_da8c8 : ByteArray := prog_25_method_1_code
def yJ4_init_da8c8 : MethodName := ⟨RJ4, "<init>", "()V"⟩
abbrev cJ4_append_15ec4 : ByteArray := prog_25_method_7_code
def yJ4_append_15ec4 : MethodName := ⟨RJ4, "append", "(Ljava/lang/String;)Ljava/lang/StringBuilder;"⟩
abbrev cJ4_append_bf812 : ByteArray := prog_25_method_15_code
def yJ4_append_bf812 : MethodName := ⟨RJ4, "append", "(I)Ljava/lang/StringBuilder;"⟩
abbrev cJ4_toString_0e30d : ByteArray := prog_25_method_42_code
def yJ4_toString_0e30d : MethodName := ⟨RJ4, "toString", "()Ljava/lang/String;"⟩
abbrev cJ4_length_8abf5 : ByteArray := prog_25_method_93_code
def yJ4_length_8abf5 : MethodName := ⟨RJ4, "length", "()I"⟩
def RJ1 : String := "java/lang/StringLatin1"
def TJ1 : u_T := fun k => match k with
  | _ => ("", "", "", false)
def tyJ1 : Nat → FieldType := fun k => match k with
  | _ => .int
abbrev wsJ10 : List Cond := u_ws RJ1 TJ1 0
theorem nmJ1 : ∀ a, a < 0 → ∀ b, b < 0 → a ≠ b → (TJ1 a).2.1 ≠ (TJ1 b).2.1 := by decide +kernel
theorem tyJ1_ok : ∀ k, k < 0 → parseFieldDescriptor (TJ1 k).2.2.1 = some (tyJ1 k) := by decide +kernel
abbrev cJ1_charAt_3b067 : ByteArray := prog_26_method_2_code
def yJ1_charAt_3b067 : MethodName := ⟨RJ1, "charAt", "([BI)C"⟩
abbrev cJ1_inflate_0e8fd : ByteArray := prog_26_method_50_code
def yJ1_inflate_0e8fd : MethodName := ⟨RJ1, "inflate", "([BI[BII)V"⟩
def RJ2 : String := "java/lang/StringUTF16"
def TJ2 : u_T := fun k => match k with
  | _ => ("", "", "", false)
def tyJ2 : Nat → FieldType := fun k => match k with
  | _ => .int
abbrev wsJ20 : List Cond := u_ws RJ2 TJ2 0
theorem nmJ2 : ∀ a, a < 0 → ∀ b, b < 0 → a ≠ b → (TJ2 a).2.1 ≠ (TJ2 b).2.1 := by decide +kernel
theorem tyJ2_ok : ∀ k, k < 0 → parseFieldDescriptor (TJ2 k).2.2.1 = some (tyJ2 k) := by decide +kernel
abbrev cJ2_newBytesFor_77867 : ByteArray := prog_27_method_2_code
def yJ2_newBytesFor_77867 : MethodName := ⟨RJ2, "newBytesFor", "(I)[B"⟩
abbrev cJ2_newBytesLength_0f7a4 : ByteArray := prog_27_method_3_code
def yJ2_newBytesLength_0f7a4 : MethodName := ⟨RJ2, "newBytesLength", "(I)I"⟩
abbrev cJ2_putChar_b72d1 : ByteArray := prog_27_method_4_code
def yJ2_putChar_b72d1 : MethodName := ⟨RJ2, "putChar", "([BII)V"⟩
abbrev cJ2_getChar_3b067 : ByteArray := prog_27_method_5_code
def yJ2_getChar_3b067 : MethodName := ⟨RJ2, "getChar", "([BI)C"⟩
abbrev cJ2_length_9d52b : ByteArray := prog_27_method_6_code
def yJ2_length_9d52b : MethodName := ⟨RJ2, "length", "([B)I"⟩
abbrev cJ2_coderFromArrayLen_85cad : ByteArray := prog_27_method_15_code
def yJ2_coderFromArrayLen_85cad : MethodName := ⟨RJ2, "coderFromArrayLen", "([BI)B"⟩
abbrev cJ2_compress_39247 : ByteArray := prog_27_method_17_code
def yJ2_compress_39247 : MethodName := ⟨RJ2, "compress", "([BII)[B"⟩
abbrev cJ2_compress_5af95 : ByteArray := prog_27_method_22_code
def yJ2_compress_5af95 : MethodName := ⟨RJ2, "compress", "([BI[BII)I"⟩
abbrev cJ2_getChars_46870 : ByteArray := prog_27_method_77_code
def yJ2_getChars_46870 : MethodName := ⟨RJ2, "getChars", "(III[B)I"⟩
abbrev cJ2_putCharsAt_cd4e5 : ByteArray := prog_27_method_81_code
def yJ2_putCharsAt_cd4e5 : MethodName := ⟨RJ2, "putCharsAt", "([BICCCC)I"⟩
abbrev cJ2_charAt_3b067 : ByteArray := prog_27_method_83_code
def yJ2_charAt_3b067 : MethodName := ⟨RJ2, "charAt", "([BI)C"⟩
abbrev cJ2_inflate_0e8fd : ByteArray := prog_27_method_86_code
def yJ2_inflate_0e8fd : MethodName := ⟨RJ2, "inflate", "([BI[BII)V"⟩
abbrev cJ2_getChars_ba4f3 : ByteArray := prog_27_method_89_code
def yJ2_getChars_ba4f3 : MethodName := ⟨RJ2, "getChars", "(II[B)I"⟩
abbrev cJ2_checkIndex_2214a : ByteArray := prog_27_method_91_code
def yJ2_checkIndex_2214a : MethodName := ⟨RJ2, "checkIndex", "(I[B)V"⟩
abbrev cJ2_checkBoundsBeginEnd_d044e : ByteArray := prog_27_method_93_code
def yJ2_checkBoundsBeginEnd_d044e : MethodName := ⟨RJ2, "checkBoundsBeginEnd", "(II[B)V"⟩
abbrev cJ2_checkBoundsOffCount_d044e : ByteArray := prog_27_method_94_code
def yJ2_checkBoundsOffCount_d044e : MethodName := ⟨RJ2, "checkBoundsOffCount", "(II[B)V"⟩
def RJ10 : String := "java/lang/System"
def TJ10 : u_T := fun k => match k with
  | _ => ("", "", "", false)
def tyJ10 : Nat → FieldType := fun k => match k with
  | _ => .int
abbrev wsJ100 : List Cond := u_ws RJ10 TJ10 0
theorem nmJ10 : ∀ a, a < 0 → ∀ b, b < 0 → a ≠ b → (TJ10 a).2.1 ≠ (TJ10 b).2.1 := by decide +kernel
theorem tyJ10_ok : ∀ k, k < 0 → parseFieldDescriptor (TJ10 k).2.2.1 = some (tyJ10 k) := by decide +kernel
def RJxfd54e : String := "java/lang/constant/Constable"
def TJxfd54e : u_T := fun k => match k with
  | _ => ("", "", "", false)
def tyJxfd54e : Nat → FieldType := fun k => match k with
  | _ => .int
abbrev wsJxfd54e0 : List Cond := u_ws RJxfd54e TJxfd54e 0
theorem nmJxfd54e : ∀ a, a < 0 → ∀ b, b < 0 → a ≠ b → (TJxfd54e a).2.1 ≠ (TJxfd54e b).2.1 := by decide +kernel
theorem tyJxfd54e_ok : ∀ k, k < 0 → parseFieldDescriptor (TJxfd54e k).2.2.1 = some (tyJxfd54e k) := by decide +kernel
def RJx3cf43 : String := "java/lang/constant/ConstantDesc"
def TJx3cf43 : u_T := fun k => match k with
  | _ => ("", "", "", false)
def tyJx3cf43 : Nat → FieldType := fun k => match k with
  | _ => .int
abbrev wsJx3cf430 : List Cond := u_ws RJx3cf43 TJx3cf43 0
theorem nmJx3cf43 : ∀ a, a < 0 → ∀ b, b < 0 → a ≠ b → (TJx3cf43 a).2.1 ≠ (TJx3cf43 b).2.1 := by decide +kernel
theorem tyJx3cf43_ok : ∀ k, k < 0 → parseFieldDescriptor (TJx3cf43 k).2.2.1 = some (tyJx3cf43 k) := by decide +kernel
def RJ7 : String := "java/util/Arrays"
def TJ7 : u_T := fun k => match k with
  | _ => ("", "", "", false)
def tyJ7 : Nat → FieldType := fun k => match k with
  | _ => .int
abbrev wsJ70 : List Cond := u_ws RJ7 TJ7 0
theorem nmJ7 : ∀ a, a < 0 → ∀ b, b < 0 → a ≠ b → (TJ7 a).2.1 ≠ (TJ7 b).2.1 := by decide +kernel
theorem tyJ7_ok : ∀ k, k < 0 → parseFieldDescriptor (TJ7 k).2.2.1 = some (tyJ7 k) := by decide +kernel
abbrev cJ7_copyOf_9075b : ByteArray := prog_33_method_121_code
def yJ7_copyOf_9075b : MethodName := ⟨RJ7, "copyOf", "([BI)[B"⟩
abbrev cJ7_checkLength_df160 : ByteArray := prog_33_method_131_code
def yJ7_checkLength_df160 : MethodName := ⟨RJ7, "checkLength", "(II)V"⟩
abbrev cJ7_copyOfRange_39247 : ByteArray := prog_33_method_132_code
def yJ7_copyOfRange_39247 : MethodName := ⟨RJ7, "copyOfRange", "([BII)[B"⟩
abbrev cJ7_copyOfRangeByte_39247 : ByteArray := prog_33_method_133_code
def yJ7_copyOfRangeByte_39247 : MethodName := ⟨RJ7, "copyOfRangeByte", "([BII)[B"⟩
def RJ8 : String := "jdk/internal/util/ArraysSupport"
def TJ8 : u_T := fun k => match k with
  | _ => ("", "", "", false)
def tyJ8 : Nat → FieldType := fun k => match k with
  | _ => .int
abbrev wsJ80 : List Cond := u_ws RJ8 TJ8 0
theorem nmJ8 : ∀ a, a < 0 → ∀ b, b < 0 → a ≠ b → (TJ8 a).2.1 ≠ (TJ8 b).2.1 := by decide +kernel
theorem tyJ8_ok : ∀ k, k < 0 → parseFieldDescriptor (TJ8 k).2.2.1 = some (tyJ8 k) := by decide +kernel
abbrev cJ8_newLength_cabcc : ByteArray := prog_35_method_27_code
def yJ8_newLength_cabcc : MethodName := ⟨RJ8, "newLength", "(III)I"⟩
abbrev cJ8_hugeLength_7cf53 : ByteArray := prog_35_method_28_code
def yJ8_hugeLength_7cf53 : MethodName := ⟨RJ8, "hugeLength", "(II)I"⟩
def RJ3 : String := "jdk/internal/util/Preconditions"
def TJ3 : u_T := fun k => match k with
  | _ => ("", "", "", false)
def tyJ3 : Nat → FieldType := fun k => match k with
  | _ => .int
abbrev wsJ30 : List Cond := u_ws RJ3 TJ3 0
theorem nmJ3 : ∀ a, a < 0 → ∀ b, b < 0 → a ≠ b → (TJ3 a).2.1 ≠ (TJ3 b).2.1 := by decide +kernel
theorem tyJ3_ok : ∀ k, k < 0 → parseFieldDescriptor (TJ3 k).2.2.1 = some (tyJ3 k) := by decide +kernel
abbrev cJ3_checkIndex_8e157 : ByteArray := prog_36_method_11_code
def yJ3_checkIndex_8e157 : MethodName := ⟨RJ3, "checkIndex", "(IILjava/util/function/BiFunction;)I"⟩
abbrev cJ3_checkFromToIndex_8c36e : ByteArray := prog_36_method_12_code
def yJ3_checkFromToIndex_8c36e : MethodName := ⟨RJ3, "checkFromToIndex", "(IIILjava/util/function/BiFunction;)I"⟩
abbrev cJ3_checkFromIndexSize_8c36e : ByteArray := prog_36_method_13_code
def yJ3_checkFromIndexSize_8c36e : MethodName := ⟨RJ3, "checkFromIndexSize", "(IIILjava/util/function/BiFunction;)I"⟩
def RL : String := "OrchardRopewayLaw"
abbrev cL_cell : ByteArray := method_2_code
def yL_cell : MethodName := ⟨RL, "cell", "([II)I"⟩
abbrev cL_addPicker : ByteArray := method_3_code
def yL_addPicker : MethodName := ⟨RL, "addPicker", "(LOrchardRopeway;III)I"⟩
abbrev cL_removePicker : ByteArray := method_4_code
def yL_removePicker : MethodName := ⟨RL, "removePicker", "(LOrchardRopeway;I)I"⟩
abbrev cL_setSlope : ByteArray := method_5_code
def yL_setSlope : MethodName := ⟨RL, "setSlope", "(LOrchardRopeway;II)I"⟩
abbrev cL_setCapacity : ByteArray := method_6_code
def yL_setCapacity : MethodName := ⟨RL, "setCapacity", "(LOrchardRopeway;I)I"⟩
abbrev cL_pass : ByteArray := method_7_code
def yL_pass : MethodName := ⟨RL, "pass", "(LOrchardRopeway;I)I"⟩
abbrev cL_station : ByteArray := method_8_code
def yL_station : MethodName := ⟨RL, "station", "(LOrchardRopeway;I)I"⟩
abbrev cL_riderAt : ByteArray := method_9_code
def yL_riderAt : MethodName := ⟨RL, "riderAt", "(LOrchardRopeway;II)I"⟩
abbrev cL_cabinOf : ByteArray := method_10_code
def yL_cabinOf : MethodName := ⟨RL, "cabinOf", "(LOrchardRopeway;I)I"⟩
abbrev cL_waitingAt : ByteArray := method_11_code
def yL_waitingAt : MethodName := ⟨RL, "waitingAt", "(LOrchardRopeway;II)I"⟩
abbrev cL_busiestStation : ByteArray := method_12_code
def yL_busiestStation : MethodName := ⟨RL, "busiestStation", "(LOrchardRopeway;)I"⟩
abbrev cL_pickerByWeight : ByteArray := method_13_code
def yL_pickerByWeight : MethodName := ⟨RL, "pickerByWeight", "(LOrchardRopeway;I)I"⟩
abbrev cL_run : ByteArray := method_14_code
def yL_run : MethodName := ⟨RL, "run", "(LOrchardRopeway;)I"⟩
abbrev cL_undo : ByteArray := method_15_code
def yL_undo : MethodName := ⟨RL, "undo", "(LOrchardRopeway;)I"⟩
abbrev cL_restore : ByteArray := method_16_code
def yL_restore : MethodName := ⟨RL, "restore", "(LOrchardRopeway;)I"⟩
abbrev cL_turn : ByteArray := method_17_code
def yL_turn : MethodName := ⟨RL, "turn", "(LOrchardRopeway;)I"⟩
abbrev cL_in : ByteArray := method_18_code
def yL_in : MethodName := ⟨RL, "in", "([III)I"⟩
abbrev cL_does : ByteArray := method_19_code
def yL_does : MethodName := ⟨RL, "does", "(LOrchardRopeway;Ljava/lang/String;)I"⟩
abbrev cL_begun : ByteArray := method_20_code
def yL_begun : MethodName := ⟨RL, "begun", "([I)LOrchardRopeway;"⟩
abbrev cL_acts : ByteArray := method_21_code
def yL_acts : MethodName := ⟨RL, "acts", "(LOrchardRopeway;[II)I"⟩
abbrev cL_seen : ByteArray := method_22_code
def yL_seen : MethodName := ⟨RL, "seen", "(LOrchardRopeway;)[I"⟩
abbrev cL_areAlike : ByteArray := method_23_code
def yL_areAlike : MethodName := ⟨RL, "areAlike", "([I[I)Z"⟩
abbrev cL_isWell : ByteArray := method_24_code
def yL_isWell : MethodName := ⟨RL, "isWell", "(LOrchardRopeway;)Z"⟩
abbrev cL_law : ByteArray := code
def yL_law : MethodName := ⟨RL, "law", "([I)Z"⟩
abbrev vwCl : List vw_C := [(RX0, TX0, 9), (RX1, TX1, 2), (RX2, TX2, 14), (RX3, TX3, 2), (RX4, TX4, 8), (RX5, TX5, 9), (RJ4, TJ4, 4), (RJ0, TJ0, 4)]
