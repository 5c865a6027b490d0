
/-! ===== BEGIN printed: names, fields, word lists, decode rows ===== -/
def RX0 : String := "GlidingContest$Air"
def TX0 : u_T := fun k => match k with
  | 0 => ("GlidingContest$Air", "thermalX", "[I", true)
  | 1 => ("GlidingContest$Air", "thermalY", "[I", true)
  | 2 => ("GlidingContest$Air", "strengths", "[I", true)
  | 3 => ("GlidingContest$Air", "thermals", "I", false)
  | _ => ("GlidingContest$Air", "base", "I", false)
def tyX0 : Nat → FieldType := fun k => match k with
  | 0 => .array .int
  | 1 => .array .int
  | 2 => .array .int
  | 3 => .int
  | _ => .int
abbrev wsX00 : List Cond := u_ws RX0 TX0 5
theorem nmX0 : ∀ a, a < 5 → ∀ b, b < 5 → a ≠ b → (TX0 a).2.1 ≠ (TX0 b).2.1 := by decide +kernel
theorem tyX0_ok : ∀ k, k < 5 → parseFieldDescriptor (TX0 k).2.2.1 = some (tyX0 k) := by decide +kernel
abbrev cX0_init : ByteArray := prog_2_method_1_code
def yX0_init : MethodName := ⟨RX0, "<init>", "()V"⟩
abbrev cX0_copyFrom : ByteArray := prog_2_method_2_code
def yX0_copyFrom : MethodName := ⟨RX0, "copyFrom", "(LGlidingContest$Air;)V"⟩
abbrev cX0_putThermal : ByteArray := prog_2_method_3_code
def yX0_putThermal : MethodName := ⟨RX0, "putThermal", "(III)I"⟩
abbrev cX0_strongestAt : ByteArray := prog_2_method_4_code
def yX0_strongestAt : MethodName := ⟨RX0, "strongestAt", "(II)I"⟩
def RX1 : String := "GlidingContest$Areas"
def TX1 : u_T := fun k => match k with
  | 0 => ("GlidingContest$Areas", "west", "[I", true)
  | 1 => ("GlidingContest$Areas", "south", "[I", true)
  | 2 => ("GlidingContest$Areas", "east", "[I", true)
  | 3 => ("GlidingContest$Areas", "north", "[I", true)
  | 4 => ("GlidingContest$Areas", "count", "I", false)
  | 5 => ("GlidingContest$Areas", "rangeWest", "[I", true)
  | _ => ("GlidingContest$Areas", "rangeEast", "[I", true)
def tyX1 : Nat → FieldType := fun k => match k with
  | 0 => .array .int
  | 1 => .array .int
  | 2 => .array .int
  | 3 => .array .int
  | 4 => .int
  | 5 => .array .int
  | _ => .array .int
abbrev wsX10 : List Cond := u_ws RX1 TX1 7
theorem nmX1 : ∀ a, a < 7 → ∀ b, b < 7 → a ≠ b → (TX1 a).2.1 ≠ (TX1 b).2.1 := by decide +kernel
theorem tyX1_ok : ∀ k, k < 7 → parseFieldDescriptor (TX1 k).2.2.1 = some (tyX1 k) := by decide +kernel
abbrev cX1_init : ByteArray := prog_3_method_1_code
def yX1_init : MethodName := ⟨RX1, "<init>", "()V"⟩
abbrev cX1_copyFrom : ByteArray := prog_3_method_2_code
def yX1_copyFrom : MethodName := ⟨RX1, "copyFrom", "(LGlidingContest$Areas;)V"⟩
abbrev cX1_putArea : ByteArray := prog_3_method_3_code
def yX1_putArea : MethodName := ⟨RX1, "putArea", "(IIII)I"⟩
abbrev cX1_covers : ByteArray := prog_3_method_4_code
def yX1_covers : MethodName := ⟨RX1, "covers", "(II)Z"⟩
abbrev cX1_countByPositions : ByteArray := prog_3_method_5_code
def yX1_countByPositions : MethodName := ⟨RX1, "countByPositions", "(I)I"⟩
abbrev cX1_countByRanges : ByteArray := prog_3_method_6_code
def yX1_countByRanges : MethodName := ⟨RX1, "countByRanges", "(I)I"⟩
abbrev cX1_sortRanges : ByteArray := prog_3_method_7_code
def yX1_sortRanges : MethodName := ⟨RX1, "sortRanges", "(I)I"⟩
abbrev cX1_insertRange : ByteArray := prog_3_method_8_code
def yX1_insertRange : MethodName := ⟨RX1, "insertRange", "(III)V"⟩
def RX2 : String := "GlidingContest$Course"
def TX2 : u_T := fun k => match k with
  | 0 => ("GlidingContest$Course", "pointX", "[I", true)
  | 1 => ("GlidingContest$Course", "pointY", "[I", true)
  | 2 => ("GlidingContest$Course", "points", "I", false)
  | 3 => ("GlidingContest$Course", "stops", "[I", true)
  | 4 => ("GlidingContest$Course", "legs", "[I", true)
  | _ => ("GlidingContest$Course", "length", "I", false)
def tyX2 : Nat → FieldType := fun k => match k with
  | 0 => .array .int
  | 1 => .array .int
  | 2 => .int
  | 3 => .array .int
  | 4 => .array .int
  | _ => .int
abbrev wsX20 : List Cond := u_ws RX2 TX2 6
theorem nmX2 : ∀ a, a < 6 → ∀ b, b < 6 → a ≠ b → (TX2 a).2.1 ≠ (TX2 b).2.1 := by decide +kernel
theorem tyX2_ok : ∀ k, k < 6 → parseFieldDescriptor (TX2 k).2.2.1 = some (tyX2 k) := by decide +kernel
abbrev cX2_init : ByteArray := prog_4_method_1_code
def yX2_init : MethodName := ⟨RX2, "<init>", "()V"⟩
abbrev cX2_copyFrom : ByteArray := prog_4_method_2_code
def yX2_copyFrom : MethodName := ⟨RX2, "copyFrom", "(LGlidingContest$Course;)V"⟩
abbrev cX2_hasPoint : ByteArray := prog_4_method_3_code
def yX2_hasPoint : MethodName := ⟨RX2, "hasPoint", "(I)Z"⟩
abbrev cX2_hasStop : ByteArray := prog_4_method_4_code
def yX2_hasStop : MethodName := ⟨RX2, "hasStop", "(I)Z"⟩
abbrev cX2_putPoint : ByteArray := prog_4_method_5_code
def yX2_putPoint : MethodName := ⟨RX2, "putPoint", "(II)I"⟩
abbrev cX2_putStop : ByteArray := prog_4_method_6_code
def yX2_putStop : MethodName := ⟨RX2, "putStop", "(I)I"⟩
abbrev cX2_dropStops : ByteArray := prog_4_method_7_code
def yX2_dropStops : MethodName := ⟨RX2, "dropStops", "()I"⟩
abbrev cX2_span : ByteArray := prog_4_method_8_code
def yX2_span : MethodName := ⟨RX2, "span", "(II)I"⟩
abbrev cX2_spanTo : ByteArray := prog_4_method_9_code
def yX2_spanTo : MethodName := ⟨RX2, "spanTo", "(III)I"⟩
abbrev cX2_spanToStop : ByteArray := prog_4_method_10_code
def yX2_spanToStop : MethodName := ⟨RX2, "spanToStop", "(III)I"⟩
abbrev cX2_endsAtPositionOf : ByteArray := prog_4_method_11_code
def yX2_endsAtPositionOf : MethodName := ⟨RX2, "endsAtPositionOf", "(I)Z"⟩
abbrev cX2_isStopAt : ByteArray := prog_4_method_12_code
def yX2_isStopAt : MethodName := ⟨RX2, "isStopAt", "(III)Z"⟩
abbrev cX2_sumOfLegs : ByteArray := prog_4_method_13_code
def yX2_sumOfLegs : MethodName := ⟨RX2, "sumOfLegs", "(II)I"⟩
abbrev cX2_wholeDistance : ByteArray := prog_4_method_14_code
def yX2_wholeDistance : MethodName := ⟨RX2, "wholeDistance", "()I"⟩
abbrev cX2_directionTo : ByteArray := prog_4_method_15_code
def yX2_directionTo : MethodName := ⟨RX2, "directionTo", "(III)I"⟩
def RX3 : String := "GlidingContest$Glider"
def TX3 : u_T := fun k => match k with
  | 0 => ("GlidingContest$Glider", "ratio", "I", false)
  | 1 => ("GlidingContest$Glider", "phase", "LGlidingContest$Phase;", false)
  | 2 => ("GlidingContest$Glider", "x", "I", false)
  | 3 => ("GlidingContest$Glider", "y", "I", false)
  | 4 => ("GlidingContest$Glider", "height", "I", false)
  | 5 => ("GlidingContest$Glider", "minutes", "I", false)
  | 6 => ("GlidingContest$Glider", "penalty", "I", false)
  | 7 => ("GlidingContest$Glider", "reached", "I", false)
  | _ => ("GlidingContest$Glider", "total", "J", false)
def tyX3 : Nat → FieldType := fun k => match k with
  | 0 => .int
  | 1 => .object "GlidingContest$Phase"
  | 2 => .int
  | 3 => .int
  | 4 => .int
  | 5 => .int
  | 6 => .int
  | 7 => .int
  | _ => .long
abbrev wsX30 : List Cond := u_ws RX3 TX3 9
theorem nmX3 : ∀ a, a < 9 → ∀ b, b < 9 → a ≠ b → (TX3 a).2.1 ≠ (TX3 b).2.1 := by decide +kernel
theorem tyX3_ok : ∀ k, k < 9 → parseFieldDescriptor (TX3 k).2.2.1 = some (tyX3 k) := by decide +kernel
abbrev cX3_init : ByteArray := prog_5_method_1_code
def yX3_init : MethodName := ⟨RX3, "<init>", "()V"⟩
abbrev cX3_copyFrom : ByteArray := prog_5_method_2_code
def yX3_copyFrom : MethodName := ⟨RX3, "copyFrom", "(LGlidingContest$Glider;)V"⟩
abbrev cX3_enter : ByteArray := prog_5_method_3_code
def yX3_enter : MethodName := ⟨RX3, "enter", "(I)V"⟩
abbrev cX3_rest : ByteArray := prog_5_method_4_code
def yX3_rest : MethodName := ⟨RX3, "rest", "()V"⟩
abbrev cX3_takeOff : ByteArray := prog_5_method_5_code
def yX3_takeOff : MethodName := ⟨RX3, "takeOff", "(II)V"⟩
abbrev cX3_sinkRate : ByteArray := prog_5_method_6_code
def yX3_sinkRate : MethodName := ⟨RX3, "sinkRate", "()I"⟩
abbrev cX3_move : ByteArray := prog_5_method_7_code
def yX3_move : MethodName := ⟨RX3, "move", "(I)V"⟩
abbrev cX3_rise : ByteArray := prog_5_method_8_code
def yX3_rise : MethodName := ⟨RX3, "rise", "(III)V"⟩
abbrev cX3_phaseSign : ByteArray := prog_5_method_9_code
def yX3_phaseSign : MethodName := ⟨RX3, "phaseSign", "()C"⟩
def RX4 : String := "GlidingContest$History"
def TX4 : u_T := fun k => match k with
  | 0 => ("GlidingContest$History", "rows", "[LGlidingContest$State;", true)
  | _ => ("GlidingContest$History", "count", "I", false)
def tyX4 : Nat → FieldType := fun k => match k with
  | 0 => .array (.object "GlidingContest$State")
  | _ => .int
abbrev wsX40 : List Cond := u_ws RX4 TX4 2
theorem nmX4 : ∀ a, a < 2 → ∀ b, b < 2 → a ≠ b → (TX4 a).2.1 ≠ (TX4 b).2.1 := by decide +kernel
theorem tyX4_ok : ∀ k, k < 2 → parseFieldDescriptor (TX4 k).2.2.1 = some (tyX4 k) := by decide +kernel
abbrev cX4_init : ByteArray := prog_6_method_1_code
def yX4_init : MethodName := ⟨RX4, "<init>", "()V"⟩
abbrev cX4_keep : ByteArray := prog_6_method_2_code
def yX4_keep : MethodName := ⟨RX4, "keep", "(LGlidingContest$State;)V"⟩
abbrev cX4_dropOldest : ByteArray := prog_6_method_3_code
def yX4_dropOldest : MethodName := ⟨RX4, "dropOldest", "()V"⟩
abbrev cX4_takeBack : ByteArray := prog_6_method_4_code
def yX4_takeBack : MethodName := ⟨RX4, "takeBack", "(LGlidingContest$State;)V"⟩
def RX5 : String := "GlidingContest$Phase"
def TX5 : u_T := fun k => match k with
  | _ => ("", "", "", false)
def tyX5 : Nat → FieldType := fun k => match k with
  | _ => .int
abbrev wsX50 : List Cond := u_ws RX5 TX5 0
theorem nmX5 : ∀ a, a < 0 → ∀ b, b < 0 → a ≠ b → (TX5 a).2.1 ≠ (TX5 b).2.1 := by decide +kernel
theorem tyX5_ok : ∀ k, k < 0 → parseFieldDescriptor (TX5 k).2.2.1 = some (tyX5 k) := by decide +kernel
def RX6 : String := "GlidingContest$Refusal"
def TX6 : u_T := fun k => match k with
  | _ => ("", "", "", false)
def tyX6 : Nat → FieldType := fun k => match k with
  | _ => .int
abbrev wsX60 : List Cond := u_ws RX6 TX6 0
theorem nmX6 : ∀ a, a < 0 → ∀ b, b < 0 → a ≠ b → (TX6 a).2.1 ≠ (TX6 b).2.1 := by decide +kernel
theorem tyX6_ok : ∀ k, k < 0 → parseFieldDescriptor (TX6 k).2.2.1 = some (tyX6 k) := by decide +kernel
def RX7 : String := "GlidingContest$Script"
def TX7 : u_T := fun k => match k with
  | 0 => ("GlidingContest$Script", "text", "[C", true)
  | 1 => ("GlidingContest$Script", "length", "I", false)
  | 2 => ("GlidingContest$Script", "kinds", "[I", true)
  | 3 => ("GlidingContest$Script", "numbers", "[[I", true)
  | 4 => ("GlidingContest$Script", "commands", "I", false)
  | _ => ("GlidingContest$Script", "stop", "I", false)
def tyX7 : Nat → FieldType := fun k => match k with
  | 0 => .array .char
  | 1 => .int
  | 2 => .array .int
  | 3 => .array (.array .int)
  | 4 => .int
  | _ => .int
abbrev wsX70 : List Cond := u_ws RX7 TX7 6
theorem nmX7 : ∀ a, a < 6 → ∀ b, b < 6 → a ≠ b → (TX7 a).2.1 ≠ (TX7 b).2.1 := by decide +kernel
theorem tyX7_ok : ∀ k, k < 6 → parseFieldDescriptor (TX7 k).2.2.1 = some (tyX7 k) := by decide +kernel
abbrev cX7_init : ByteArray := prog_9_method_1_code
def yX7_init : MethodName := ⟨RX7, "<init>", "()V"⟩
abbrev cX7_hasRoom : ByteArray := prog_9_method_2_code
def yX7_hasRoom : MethodName := ⟨RX7, "hasRoom", "()Z"⟩
abbrev cX7_add : ByteArray := prog_9_method_3_code
def yX7_add : MethodName := ⟨RX7, "add", "(C)I"⟩
abbrev cX7_findError : ByteArray := prog_9_method_4_code
def yX7_findError : MethodName := ⟨RX7, "findError", "()I"⟩
abbrev cX7_readCommand : ByteArray := prog_9_method_5_code
def yX7_readCommand : MethodName := ⟨RX7, "readCommand", "(I)Z"⟩
abbrev cX7_formOf : ByteArray := prog_9_method_6_code
def yX7_formOf : MethodName := ⟨RX7, "formOf", "(I)Ljava/lang/String;"⟩
abbrev cX7_fits : ByteArray := prog_9_method_7_code
def yX7_fits : MethodName := ⟨RX7, "fits", "(Ljava/lang/String;I)Z"⟩
abbrev cX7_isSlot : ByteArray := prog_9_method_8_code
def yX7_isSlot : MethodName := ⟨RX7, "isSlot", "(C)Z"⟩
abbrev cX7_widthOf : ByteArray := prog_9_method_9_code
def yX7_widthOf : MethodName := ⟨RX7, "widthOf", "(CI)I"⟩
abbrev cX7_valueOf : ByteArray := prog_9_method_10_code
def yX7_valueOf : MethodName := ⟨RX7, "valueOf", "(CII)I"⟩
abbrev cX7_isDigitAt : ByteArray := prog_9_method_11_code
def yX7_isDigitAt : MethodName := ⟨RX7, "isDigitAt", "(I)Z"⟩
abbrev cX7_digitAt : ByteArray := prog_9_method_12_code
def yX7_digitAt : MethodName := ⟨RX7, "digitAt", "(I)I"⟩
abbrev cX7_wayAt : ByteArray := prog_9_method_13_code
def yX7_wayAt : MethodName := ⟨RX7, "wayAt", "(I)I"⟩
abbrev cX7_putNumber : ByteArray := prog_9_method_14_code
def yX7_putNumber : MethodName := ⟨RX7, "putNumber", "(II)V"⟩
def RX8 : String := "GlidingContest$State"
def TX8 : u_T := fun k => match k with
  | 0 => ("GlidingContest$State", "course", "LGlidingContest$Course;", true)
  | 1 => ("GlidingContest$State", "air", "LGlidingContest$Air;", true)
  | 2 => ("GlidingContest$State", "areas", "LGlidingContest$Areas;", true)
  | 3 => ("GlidingContest$State", "gliders", "[LGlidingContest$Glider;", true)
  | 4 => ("GlidingContest$State", "pilots", "I", false)
  | 5 => ("GlidingContest$State", "endedDays", "I", false)
  | 6 => ("GlidingContest$State", "standings", "[J", true)
  | _ => ("GlidingContest$State", "scout", "LGlidingContest$Glider;", true)
def tyX8 : Nat → FieldType := fun k => match k with
  | 0 => .object "GlidingContest$Course"
  | 1 => .object "GlidingContest$Air"
  | 2 => .object "GlidingContest$Areas"
  | 3 => .array (.object "GlidingContest$Glider")
  | 4 => .int
  | 5 => .int
  | 6 => .array .long
  | _ => .object "GlidingContest$Glider"
abbrev wsX80 : List Cond := u_ws RX8 TX8 8
theorem nmX8 : ∀ a, a < 8 → ∀ b, b < 8 → a ≠ b → (TX8 a).2.1 ≠ (TX8 b).2.1 := by decide +kernel
theorem tyX8_ok : ∀ k, k < 8 → parseFieldDescriptor (TX8 k).2.2.1 = some (tyX8 k) := by decide +kernel
abbrev cX8_init : ByteArray := prog_10_method_1_code
def yX8_init : MethodName := ⟨RX8, "<init>", "()V"⟩
abbrev cX8_copyFrom : ByteArray := prog_10_method_2_code
def yX8_copyFrom : MethodName := ⟨RX8, "copyFrom", "(LGlidingContest$State;)V"⟩
abbrev cX8_hasPilot : ByteArray := prog_10_method_3_code
def yX8_hasPilot : MethodName := ⟨RX8, "hasPilot", "(I)Z"⟩
abbrev cX8_countInPhase : ByteArray := prog_10_method_4_code
def yX8_countInPhase : MethodName := ⟨RX8, "countInPhase", "(LGlidingContest$Phase;)I"⟩
abbrev cX8_allWaiting : ByteArray := prog_10_method_5_code
def yX8_allWaiting : MethodName := ⟨RX8, "allWaiting", "()Z"⟩
abbrev cX8_refusalOfPoint : ByteArray := prog_10_method_6_code
def yX8_refusalOfPoint : MethodName := ⟨RX8, "refusalOfPoint", "(II)LGlidingContest$Refusal;"⟩
abbrev cX8_refusalOfStop : ByteArray := prog_10_method_7_code
def yX8_refusalOfStop : MethodName := ⟨RX8, "refusalOfStop", "(I)LGlidingContest$Refusal;"⟩
abbrev cX8_refusalOfThermal : ByteArray := prog_10_method_8_code
def yX8_refusalOfThermal : MethodName := ⟨RX8, "refusalOfThermal", "(III)LGlidingContest$Refusal;"⟩
abbrev cX8_refusalOfArea : ByteArray := prog_10_method_9_code
def yX8_refusalOfArea : MethodName := ⟨RX8, "refusalOfArea", "(IIII)LGlidingContest$Refusal;"⟩
abbrev cX8_refusalOfPilot : ByteArray := prog_10_method_10_code
def yX8_refusalOfPilot : MethodName := ⟨RX8, "refusalOfPilot", "(I)LGlidingContest$Refusal;"⟩
abbrev cX8_refusalOfLaunch : ByteArray := prog_10_method_11_code
def yX8_refusalOfLaunch : MethodName := ⟨RX8, "refusalOfLaunch", "(I)LGlidingContest$Refusal;"⟩
abbrev cX8_refusalOfFlight : ByteArray := prog_10_method_12_code
def yX8_refusalOfFlight : MethodName := ⟨RX8, "refusalOfFlight", "(III)LGlidingContest$Refusal;"⟩
abbrev cX8_refusalOfClimb : ByteArray := prog_10_method_13_code
def yX8_refusalOfClimb : MethodName := ⟨RX8, "refusalOfClimb", "(II)LGlidingContest$Refusal;"⟩
abbrev cX8_refusalOfEnd : ByteArray := prog_10_method_14_code
def yX8_refusalOfEnd : MethodName := ⟨RX8, "refusalOfEnd", "()LGlidingContest$Refusal;"⟩
abbrev cX8_putPilot : ByteArray := prog_10_method_15_code
def yX8_putPilot : MethodName := ⟨RX8, "putPilot", "(I)I"⟩
abbrev cX8_start : ByteArray := prog_10_method_16_code
def yX8_start : MethodName := ⟨RX8, "start", "(I)I"⟩
abbrev cX8_glide : ByteArray := prog_10_method_17_code
def yX8_glide : MethodName := ⟨RX8, "glide", "(III)I"⟩
abbrev cX8_glideKilometre : ByteArray := prog_10_method_18_code
def yX8_glideKilometre : MethodName := ⟨RX8, "glideKilometre", "(LGlidingContest$Glider;I)V"⟩
abbrev cX8_soar : ByteArray := prog_10_method_19_code
def yX8_soar : MethodName := ⟨RX8, "soar", "(II)I"⟩
abbrev cX8_closeDay : ByteArray := prog_10_method_20_code
def yX8_closeDay : MethodName := ⟨RX8, "closeDay", "()I"⟩
abbrev cX8_distanceLeft : ByteArray := prog_10_method_21_code
def yX8_distanceLeft : MethodName := ⟨RX8, "distanceLeft", "(LGlidingContest$Glider;)I"⟩
abbrev cX8_finishesByHeight : ByteArray := prog_10_method_22_code
def yX8_finishesByHeight : MethodName := ⟨RX8, "finishesByHeight", "(LGlidingContest$Glider;)Z"⟩
abbrev cX8_finishesInFlight : ByteArray := prog_10_method_23_code
def yX8_finishesInFlight : MethodName := ⟨RX8, "finishesInFlight", "(LGlidingContest$Glider;)Z"⟩
abbrev cX8_distanceDone : ByteArray := prog_10_method_24_code
def yX8_distanceDone : MethodName := ⟨RX8, "distanceDone", "(LGlidingContest$Glider;)I"⟩
abbrev cX8_scoreOf : ByteArray := prog_10_method_25_code
def yX8_scoreOf : MethodName := ⟨RX8, "scoreOf", "(LGlidingContest$Glider;)I"⟩
abbrev cX8_leastMinutes : ByteArray := prog_10_method_26_code
def yX8_leastMinutes : MethodName := ⟨RX8, "leastMinutes", "(I)I"⟩
abbrev cX8_rankedAt : ByteArray := prog_10_method_28_code
def yX8_rankedAt : MethodName := ⟨RX8, "rankedAt", "(I)I"⟩
abbrev cX8_countAhead : ByteArray := prog_10_method_29_code
def yX8_countAhead : MethodName := ⟨RX8, "countAhead", "(I)I"⟩
abbrev cX8_isAhead : ByteArray := prog_10_method_30_code
def yX8_isAhead : MethodName := ⟨RX8, "isAhead", "(II)Z"⟩
abbrev cX8_rowCountsAgree : ByteArray := prog_10_method_31_code
def yX8_rowCountsAgree : MethodName := ⟨RX8, "rowCountsAgree", "()Z"⟩
abbrev cX8_finishForecastsAgree : ByteArray := prog_10_method_32_code
def yX8_finishForecastsAgree : MethodName := ⟨RX8, "finishForecastsAgree", "()Z"⟩
abbrev cX8_distancesAreBounded : ByteArray := prog_10_method_33_code
def yX8_distancesAreBounded : MethodName := ⟨RX8, "distancesAreBounded", "()Z"⟩
def RX9 : String := "GlidingContest"
def TX9 : u_T := fun k => match k with
  | 0 => ("GlidingContest", "now", "LGlidingContest$State;", true)
  | 1 => ("GlidingContest", "saved", "LGlidingContest$State;", true)
  | 2 => ("GlidingContest", "beforeRun", "LGlidingContest$State;", true)
  | 3 => ("GlidingContest", "history", "LGlidingContest$History;", true)
  | 4 => ("GlidingContest", "script", "LGlidingContest$Script;", true)
  | 5 => ("GlidingContest", "line", "Ljava/lang/StringBuilder;", true)
  | 6 => ("GlidingContest", "hasSaved", "Z", false)
  | 7 => ("GlidingContest", "storedError", "I", false)
  | _ => ("GlidingContest", "storedFailure", "I", false)
def tyX9 : Nat → FieldType := fun k => match k with
  | 0 => .object "GlidingContest$State"
  | 1 => .object "GlidingContest$State"
  | 2 => .object "GlidingContest$State"
  | 3 => .object "GlidingContest$History"
  | 4 => .object "GlidingContest$Script"
  | 5 => .object "java/lang/StringBuilder"
  | 6 => .boolean
  | 7 => .int
  | _ => .int
abbrev wsX90 : List Cond := u_ws RX9 TX9 9
theorem nmX9 : ∀ a, a < 9 → ∀ b, b < 9 → a ≠ b → (TX9 a).2.1 ≠ (TX9 b).2.1 := by decide +kernel
theorem tyX9_ok : ∀ k, k < 9 → parseFieldDescriptor (TX9 k).2.2.1 = some (tyX9 k) := by decide +kernel
abbrev cX9_init : ByteArray := prog_1_method_1_code
def yX9_init : MethodName := ⟨RX9, "<init>", "()V"⟩
abbrev cX9_addPoint : ByteArray := prog_1_method_2_code
def yX9_addPoint : MethodName := ⟨RX9, "addPoint", "(II)I"⟩
abbrev cX9_addTaskPoint : ByteArray := prog_1_method_3_code
def yX9_addTaskPoint : MethodName := ⟨RX9, "addTaskPoint", "(I)I"⟩
abbrev cX9_clearTask : ByteArray := prog_1_method_4_code
def yX9_clearTask : MethodName := ⟨RX9, "clearTask", "()I"⟩
abbrev cX9_addThermal : ByteArray := prog_1_method_5_code
def yX9_addThermal : MethodName := ⟨RX9, "addThermal", "(III)I"⟩
abbrev cX9_setCloudBase : ByteArray := prog_1_method_6_code
def yX9_setCloudBase : MethodName := ⟨RX9, "setCloudBase", "(I)I"⟩
abbrev cX9_addArea : ByteArray := prog_1_method_7_code
def yX9_addArea : MethodName := ⟨RX9, "addArea", "(IIII)I"⟩
abbrev cX9_addPilot : ByteArray := prog_1_method_8_code
def yX9_addPilot : MethodName := ⟨RX9, "addPilot", "(I)I"⟩
abbrev cX9_launch : ByteArray := prog_1_method_9_code
def yX9_launch : MethodName := ⟨RX9, "launch", "(I)I"⟩
abbrev cX9_fly : ByteArray := prog_1_method_10_code
def yX9_fly : MethodName := ⟨RX9, "fly", "(III)I"⟩
abbrev cX9_climb : ByteArray := prog_1_method_11_code
def yX9_climb : MethodName := ⟨RX9, "climb", "(II)I"⟩
abbrev cX9_endDay : ByteArray := prog_1_method_12_code
def yX9_endDay : MethodName := ⟨RX9, "endDay", "()I"⟩
abbrev cX9_pointCount : ByteArray := prog_1_method_13_code
def yX9_pointCount : MethodName := ⟨RX9, "pointCount", "()I"⟩
abbrev cX9_distance : ByteArray := prog_1_method_14_code
def yX9_distance : MethodName := ⟨RX9, "distance", "(II)I"⟩
abbrev cX9_taskLength : ByteArray := prog_1_method_15_code
def yX9_taskLength : MethodName := ⟨RX9, "taskLength", "()I"⟩
abbrev cX9_taskPoint : ByteArray := prog_1_method_16_code
def yX9_taskPoint : MethodName := ⟨RX9, "taskPoint", "(I)I"⟩
abbrev cX9_taskDistance : ByteArray := prog_1_method_17_code
def yX9_taskDistance : MethodName := ⟨RX9, "taskDistance", "()I"⟩
abbrev cX9_strongestThermal : ByteArray := prog_1_method_18_code
def yX9_strongestThermal : MethodName := ⟨RX9, "strongestThermal", "(II)I"⟩
abbrev cX9_cloudBase : ByteArray := prog_1_method_19_code
def yX9_cloudBase : MethodName := ⟨RX9, "cloudBase", "()I"⟩
abbrev cX9_isRestricted : ByteArray := prog_1_method_20_code
def yX9_isRestricted : MethodName := ⟨RX9, "isRestricted", "(II)Z"⟩
abbrev cX9_restrictedInRow : ByteArray := prog_1_method_21_code
def yX9_restrictedInRow : MethodName := ⟨RX9, "restrictedInRow", "(I)I"⟩
abbrev cX9_restrictedInRowByRanges : ByteArray := prog_1_method_22_code
def yX9_restrictedInRowByRanges : MethodName := ⟨RX9, "restrictedInRowByRanges", "(I)I"⟩
abbrev cX9_pilotCount : ByteArray := prog_1_method_23_code
def yX9_pilotCount : MethodName := ⟨RX9, "pilotCount", "()I"⟩
abbrev cX9_isPlanning : ByteArray := prog_1_method_24_code
def yX9_isPlanning : MethodName := ⟨RX9, "isPlanning", "()Z"⟩
abbrev cX9_isFlying : ByteArray := prog_1_method_25_code
def yX9_isFlying : MethodName := ⟨RX9, "isFlying", "(I)Z"⟩
abbrev cX9_isLanded : ByteArray := prog_1_method_26_code
def yX9_isLanded : MethodName := ⟨RX9, "isLanded", "(I)Z"⟩
abbrev cX9_isFinished : ByteArray := prog_1_method_27_code
def yX9_isFinished : MethodName := ⟨RX9, "isFinished", "(I)Z"⟩
abbrev cX9_sink : ByteArray := prog_1_method_28_code
def yX9_sink : MethodName := ⟨RX9, "sink", "(I)I"⟩
abbrev cX9_x : ByteArray := prog_1_method_29_code
def yX9_x : MethodName := ⟨RX9, "x", "(I)I"⟩
abbrev cX9_y : ByteArray := prog_1_method_30_code
def yX9_y : MethodName := ⟨RX9, "y", "(I)I"⟩
abbrev cX9_height : ByteArray := prog_1_method_31_code
def yX9_height : MethodName := ⟨RX9, "height", "(I)I"⟩
abbrev cX9_minutes : ByteArray := prog_1_method_32_code
def yX9_minutes : MethodName := ⟨RX9, "minutes", "(I)I"⟩
abbrev cX9_penalty : ByteArray := prog_1_method_33_code
def yX9_penalty : MethodName := ⟨RX9, "penalty", "(I)I"⟩
abbrev cX9_reached : ByteArray := prog_1_method_34_code
def yX9_reached : MethodName := ⟨RX9, "reached", "(I)I"⟩
abbrev cX9_remainingDistance : ByteArray := prog_1_method_35_code
def yX9_remainingDistance : MethodName := ⟨RX9, "remainingDistance", "(I)I"⟩
abbrev cX9_canFinish : ByteArray := prog_1_method_36_code
def yX9_canFinish : MethodName := ⟨RX9, "canFinish", "(I)Z"⟩
abbrev cX9_canFinishBySimulation : ByteArray := prog_1_method_37_code
def yX9_canFinishBySimulation : MethodName := ⟨RX9, "canFinishBySimulation", "(I)Z"⟩
abbrev cX9_achievedDistance : ByteArray := prog_1_method_38_code
def yX9_achievedDistance : MethodName := ⟨RX9, "achievedDistance", "(I)I"⟩
abbrev cX9_dayScore : ByteArray := prog_1_method_39_code
def yX9_dayScore : MethodName := ⟨RX9, "dayScore", "(I)I"⟩
abbrev cX9_total : ByteArray := prog_1_method_40_code
def yX9_total : MethodName := ⟨RX9, "total", "(I)J"⟩
abbrev cX9_pilotAtRank : ByteArray := prog_1_method_41_code
def yX9_pilotAtRank : MethodName := ⟨RX9, "pilotAtRank", "(I)I"⟩
abbrev cX9_days : ByteArray := prog_1_method_42_code
def yX9_days : MethodName := ⟨RX9, "days", "()I"⟩
abbrev cX9_isConsistent : ByteArray := prog_1_method_45_code
def yX9_isConsistent : MethodName := ⟨RX9, "isConsistent", "()Z"⟩
abbrev cX9_append : ByteArray := prog_1_method_46_code
def yX9_append : MethodName := ⟨RX9, "append", "(C)I"⟩
abbrev cX9_run : ByteArray := prog_1_method_47_code
def yX9_run : MethodName := ⟨RX9, "run", "()I"⟩
abbrev cX9_writePilot : ByteArray := prog_1_method_50_code
def yX9_writePilot : MethodName := ⟨RX9, "writePilot", "(I)I"⟩
abbrev cX9_writeTask : ByteArray := prog_1_method_51_code
def yX9_writeTask : MethodName := ⟨RX9, "writeTask", "()I"⟩
abbrev cX9_undo : ByteArray := prog_1_method_53_code
def yX9_undo : MethodName := ⟨RX9, "undo", "()I"⟩
abbrev cX9_save : ByteArray := prog_1_method_54_code
def yX9_save : MethodName := ⟨RX9, "save", "()V"⟩
abbrev cX9_restore : ByteArray := prog_1_method_55_code
def yX9_restore : MethodName := ⟨RX9, "restore", "()V"⟩
abbrev cX9_refuse : ByteArray := prog_1_method_56_code
def yX9_refuse : MethodName := ⟨RX9, "refuse", "(LGlidingContest$Refusal;)V"⟩
abbrev cX9_isCoordinate : ByteArray := prog_1_method_57_code
def yX9_isCoordinate : MethodName := ⟨RX9, "isCoordinate", "(I)Z"⟩
abbrev cX9_requirePosition : ByteArray := prog_1_method_58_code
def yX9_requirePosition : MethodName := ⟨RX9, "requirePosition", "(II)V"⟩
abbrev cX9_knownPilot : ByteArray := prog_1_method_59_code
def yX9_knownPilot : MethodName := ⟨RX9, "knownPilot", "(I)LGlidingContest$Glider;"⟩
abbrev cX9_launchedPilot : ByteArray := prog_1_method_60_code
def yX9_launchedPilot : MethodName := ⟨RX9, "launchedPilot", "(I)LGlidingContest$Glider;"⟩
abbrev cX9_pilotInPhase : ByteArray := prog_1_method_61_code
def yX9_pilotInPhase : MethodName := ⟨RX9, "pilotInPhase", "(ILGlidingContest$Phase;)LGlidingContest$Glider;"⟩
abbrev cX9_writeFlight : ByteArray := prog_1_method_62_code
def yX9_writeFlight : MethodName := ⟨RX9, "writeFlight", "(LGlidingContest$Glider;)V"⟩
abbrev cX9_refusalOf : ByteArray := prog_1_method_63_code
def yX9_refusalOf : MethodName := ⟨RX9, "refusalOf", "(I)LGlidingContest$Refusal;"⟩
abbrev cX9_carryOut : ByteArray := prog_1_method_64_code
def yX9_carryOut : MethodName := ⟨RX9, "carryOut", "(I)V"⟩
abbrev cX9_quotient : ByteArray := prog_1_method_65_code
def yX9_quotient : MethodName := ⟨RX9, "quotient", "(II)I"⟩
abbrev cX9_eastward : ByteArray := prog_1_method_66_code
def yX9_eastward : MethodName := ⟨RX9, "eastward", "(I)I"⟩
abbrev cX9_northward : ByteArray := prog_1_method_67_code
def yX9_northward : MethodName := ⟨RX9, "northward", "(I)I"⟩
def RX10 : String := "GlidingContestModel"
def TX10 : u_T := fun k => match k with
  | _ => ("", "", "", false)
def tyX10 : Nat → FieldType := fun k => match k with
  | _ => .int
abbrev wsX100 : List Cond := u_ws RX10 TX10 0
theorem nmX10 : ∀ a, a < 0 → ∀ b, b < 0 → a ≠ b → (TX10 a).2.1 ≠ (TX10 b).2.1 := by decide +kernel
theorem tyX10_ok : ∀ k, k < 0 → parseFieldDescriptor (TX10 k).2.2.1 = some (tyX10 k) := by decide +kernel
def RJx145de : String := "java/io/Serializable"
def TJx145de : u_T := fun k => match k with
  | _ => ("", "", "", false)
def tyJx145de : Nat → FieldType := fun k => match k with
  | _ => .int
abbrev wsJx145de0 : List Cond := u_ws RJx145de TJx145de 0
theorem nmJx145de : ∀ a, a < 0 → ∀ b, b < 0 → a ≠ b → (TJx145de a).2.1 ≠ (TJx145de b).2.1 := by decide +kernel
theorem tyJx145de_ok : ∀ k, k < 0 → parseFieldDescriptor (TJx145de k).2.2.1 = some (tyJx145de k) := by decide +kernel
def RJ5 : String := "java/lang/AbstractStringBuilder"
def TJ5 : u_T := fun k => match k with
  | _ => ("", "", "", false)
def tyJ5 : Nat → FieldType := fun k => match k with
  | _ => .int
abbrev wsJ50 : List Cond := u_ws RJ5 TJ5 0
theorem nmJ5 : ∀ a, a < 0 → ∀ b, b < 0 → a ≠ b → (TJ5 a).2.1 ≠ (TJ5 b).2.1 := by decide +kernel
theorem tyJ5_ok : ∀ k, k < 0 → parseFieldDescriptor (TJ5 k).2.2.1 = some (tyJ5 k) := by decide +kernel
abbrev cJ5_init_d00df : ByteArray := prog_14_method_2_code
def yJ5_init_d00df : MethodName := ⟨RJ5, "<init>", "(I)V"⟩
abbrev cJ5_length_8abf5 : ByteArray := prog_14_method_6_code
def yJ5_length_8abf5 : MethodName := ⟨RJ5, "length", "()I"⟩
abbrev cJ5_ensureCapacityInternal_d00df : ByteArray := prog_14_method_9_code
def yJ5_ensureCapacityInternal_d00df : MethodName := ⟨RJ5, "ensureCapacityInternal", "(I)V"⟩
abbrev cJ5_newCapacity_0f7a4 : ByteArray := prog_14_method_10_code
def yJ5_newCapacity_0f7a4 : MethodName := ⟨RJ5, "newCapacity", "(I)I"⟩
abbrev cJ5_inflate_da8c8 : ByteArray := prog_14_method_11_code
def yJ5_inflate_da8c8 : MethodName := ⟨RJ5, "inflate", "()V"⟩
abbrev cJ5_setLength_d00df : ByteArray := prog_14_method_13_code
def yJ5_setLength_d00df : MethodName := ⟨RJ5, "setLength", "(I)V"⟩
abbrev cJ5_append_cf1ce : ByteArray := prog_14_method_22_code
def yJ5_append_cf1ce : MethodName := ⟨RJ5, "append", "(Ljava/lang/String;)Ljava/lang/AbstractStringBuilder;"⟩
abbrev cJ5_appendNull_278bc : ByteArray := prog_14_method_26_code
def yJ5_appendNull_278bc : MethodName := ⟨RJ5, "appendNull", "()Ljava/lang/AbstractStringBuilder;"⟩
abbrev cJ5_append_3fe6f : ByteArray := prog_14_method_31_code
def yJ5_append_3fe6f : MethodName := ⟨RJ5, "append", "(C)Ljava/lang/AbstractStringBuilder;"⟩
abbrev cJ5_append_c97b9 : ByteArray := prog_14_method_32_code
def yJ5_append_c97b9 : MethodName := ⟨RJ5, "append", "(I)Ljava/lang/AbstractStringBuilder;"⟩
abbrev cJ5_getValue_6d5f1 : ByteArray := prog_14_method_64_code
def yJ5_getValue_6d5f1 : MethodName := ⟨RJ5, "getValue", "()[B"⟩
abbrev cJ5_isLatin1_aae02 : ByteArray := prog_14_method_68_code
def yJ5_isLatin1_aae02 : MethodName := ⟨RJ5, "isLatin1", "()Z"⟩
abbrev cJ5_inflateIfNeededFor_a7421 : ByteArray := prog_14_method_71_code
def yJ5_inflateIfNeededFor_a7421 : MethodName := ⟨RJ5, "inflateIfNeededFor", "(Ljava/lang/String;)V"⟩
abbrev cJ5_putStringAt_47b60 : ByteArray := prog_14_method_73_code
def yJ5_putStringAt_47b60 : MethodName := ⟨RJ5, "putStringAt", "(ILjava/lang/String;)V"⟩
def RJx2cfe8 : String := "java/lang/Appendable"
def TJx2cfe8 : u_T := fun k => match k with
  | _ => ("", "", "", false)
def tyJx2cfe8 : Nat → FieldType := fun k => match k with
  | _ => .int
abbrev wsJx2cfe80 : List Cond := u_ws RJx2cfe8 TJx2cfe8 0
theorem nmJx2cfe8 : ∀ a, a < 0 → ∀ b, b < 0 → a ≠ b → (TJx2cfe8 a).2.1 ≠ (TJx2cfe8 b).2.1 := by decide +kernel
theorem tyJx2cfe8_ok : ∀ k, k < 0 → parseFieldDescriptor (TJx2cfe8 k).2.2.1 = some (tyJx2cfe8 k) := by decide +kernel
def RJx00060 : String := "java/lang/ArrayIndexOutOfBoundsException"
def TJx00060 : u_T := fun k => match k with
  | 0 => ("java/lang/Throwable", "cause", "Ljava/lang/Throwable;", false)
  | 1 => ("java/lang/Throwable", "stackTrace", "[Ljava/lang/StackTraceElement;", false)
  | 2 => ("java/lang/Throwable", "suppressedExceptions", "Ljava/util/List;", false)
  | 3 => ("java/lang/Throwable", "detailMessage", "Ljava/lang/String;", false)
  | 4 => ("java/lang/Throwable", "backtrace", "Ljava/lang/Object;", false)
  | _ => ("java/lang/Throwable", "depth", "I", false)
def tyJx00060 : Nat → FieldType := fun k => match k with
  | 0 => .object "java/lang/Throwable"
  | 1 => .array (.object "java/lang/StackTraceElement")
  | 2 => .object "java/util/List"
  | 3 => .object "java/lang/String"
  | 4 => .object "java/lang/Object"
  | _ => .int
abbrev wsJx000600 : List Cond := u_ws RJx00060 TJx00060 6
theorem nmJx00060 : ∀ a, a < 6 → ∀ b, b < 6 → a ≠ b → (TJx00060 a).2.1 ≠ (TJx00060 b).2.1 := by decide +kernel
theorem tyJx00060_ok : ∀ k, k < 6 → parseFieldDescriptor (TJx00060 k).2.2.1 = some (tyJx00060 k) := by decide +kernel
abbrev cJx00060_init_a7421 : ByteArray := prog_16_method_2_code
def yJx00060_init_a7421 : MethodName := ⟨RJx00060, "<init>", "(Ljava/lang/String;)V"⟩
abbrev cJx00060_init_d00df : ByteArray := prog_16_method_3_code
def yJx00060_init_d00df : MethodName := ⟨RJx00060, "<init>", "(I)V"⟩
def RJx9f9b0 : String := "java/lang/CharSequence"
def TJx9f9b0 : u_T := fun k => match k with
  | _ => ("", "", "", false)
def tyJx9f9b0 : Nat → FieldType := fun k => match k with
  | _ => .int
abbrev wsJx9f9b00 : List Cond := u_ws RJx9f9b0 TJx9f9b0 0
theorem nmJx9f9b0 : ∀ a, a < 0 → ∀ b, b < 0 → a ≠ b → (TJx9f9b0 a).2.1 ≠ (TJx9f9b0 b).2.1 := by decide +kernel
theorem tyJx9f9b0_ok : ∀ k, k < 0 → parseFieldDescriptor (TJx9f9b0 k).2.2.1 = some (tyJx9f9b0 k) := by decide +kernel
def RJx8e188 : String := "java/lang/Cloneable"
def TJx8e188 : u_T := fun k => match k with
  | _ => ("", "", "", false)
def tyJx8e188 : Nat → FieldType := fun k => match k with
  | _ => .int
abbrev wsJx8e1880 : List Cond := u_ws RJx8e188 TJx8e188 0
theorem nmJx8e188 : ∀ a, a < 0 → ∀ b, b < 0 → a ≠ b → (TJx8e188 a).2.1 ≠ (TJx8e188 b).2.1 := by decide +kernel
theorem tyJx8e188_ok : ∀ k, k < 0 → parseFieldDescriptor (TJx8e188 k).2.2.1 = some (tyJx8e188 k) := by decide +kernel
def RJxb160c : String := "java/lang/Comparable"
def TJxb160c : u_T := fun k => match k with
  | _ => ("", "", "", false)
def tyJxb160c : Nat → FieldType := fun k => match k with
  | _ => .int
abbrev wsJxb160c0 : List Cond := u_ws RJxb160c TJxb160c 0
theorem nmJxb160c : ∀ a, a < 0 → ∀ b, b < 0 → a ≠ b → (TJxb160c a).2.1 ≠ (TJxb160c b).2.1 := by decide +kernel
theorem tyJxb160c_ok : ∀ k, k < 0 → parseFieldDescriptor (TJxb160c k).2.2.1 = some (tyJxb160c k) := by decide +kernel
def RJx29ce0 : String := "java/lang/Enum"
def TJx29ce0 : u_T := fun k => match k with
  | _ => ("", "", "", false)
def tyJx29ce0 : Nat → FieldType := fun k => match k with
  | _ => .int
abbrev wsJx29ce00 : List Cond := u_ws RJx29ce0 TJx29ce0 0
theorem nmJx29ce0 : ∀ a, a < 0 → ∀ b, b < 0 → a ≠ b → (TJx29ce0 a).2.1 ≠ (TJx29ce0 b).2.1 := by decide +kernel
theorem tyJx29ce0_ok : ∀ k, k < 0 → parseFieldDescriptor (TJx29ce0 k).2.2.1 = some (tyJx29ce0 k) := by decide +kernel
def RJ6 : String := "java/lang/Integer"
def TJ6 : u_T := fun k => match k with
  | _ => ("", "", "", false)
def tyJ6 : Nat → FieldType := fun k => match k with
  | _ => .int
abbrev wsJ60 : List Cond := u_ws RJ6 TJ6 0
theorem nmJ6 : ∀ a, a < 0 → ∀ b, b < 0 → a ≠ b → (TJ6 a).2.1 ≠ (TJ6 b).2.1 := by decide +kernel
theorem tyJ6_ok : ∀ k, k < 0 → parseFieldDescriptor (TJ6 k).2.2.1 = some (tyJ6 k) := by decide +kernel
abbrev cJ6_getChars_ba4f3 : ByteArray := prog_25_method_12_code
def yJ6_getChars_ba4f3 : MethodName := ⟨RJ6, "getChars", "(II[B)I"⟩
abbrev cJ6_stringSize_0f7a4 : ByteArray := prog_25_method_13_code
def yJ6_stringSize_0f7a4 : MethodName := ⟨RJ6, "stringSize", "(I)I"⟩
def RJ9 : String := "java/lang/Math"
def TJ9 : u_T := fun k => match k with
  | _ => ("", "", "", false)
def tyJ9 : Nat → FieldType := fun k => match k with
  | _ => .int
abbrev wsJ90 : List Cond := u_ws RJ9 TJ9 0
theorem nmJ9 : ∀ a, a < 0 → ∀ b, b < 0 → a ≠ b → (TJ9 a).2.1 ≠ (TJ9 b).2.1 := by decide +kernel
theorem tyJ9_ok : ∀ k, k < 0 → parseFieldDescriptor (TJ9 k).2.2.1 = some (tyJ9 k) := by decide +kernel
abbrev cJ9_abs_0f7a4 : ByteArray := prog_26_method_59_code
def yJ9_abs_0f7a4 : MethodName := ⟨RJ9, "abs", "(I)I"⟩
abbrev cJ9_max_7cf53 : ByteArray := prog_26_method_65_code
def yJ9_max_7cf53 : MethodName := ⟨RJ9, "max", "(II)I"⟩
abbrev cJ9_min_7cf53 : ByteArray := prog_26_method_69_code
def yJ9_min_7cf53 : MethodName := ⟨RJ9, "min", "(II)I"⟩
def RJxd2413 : String := "java/lang/Number"
def TJxd2413 : u_T := fun k => match k with
  | _ => ("", "", "", false)
def tyJxd2413 : Nat → FieldType := fun k => match k with
  | _ => .int
abbrev wsJxd24130 : List Cond := u_ws RJxd2413 TJxd2413 0
theorem nmJxd2413 : ∀ a, a < 0 → ∀ b, b < 0 → a ≠ b → (TJxd2413 a).2.1 ≠ (TJxd2413 b).2.1 := by decide +kernel
theorem tyJxd2413_ok : ∀ k, k < 0 → parseFieldDescriptor (TJxd2413 k).2.2.1 = some (tyJxd2413 k) := by decide +kernel
def RJ0 : String := "java/lang/String"
def TJ0 : u_T := fun k => match k with
  | 0 => ("java/lang/String", "value", "[B", true)
  | 1 => ("java/lang/String", "coder", "B", true)
  | 2 => ("java/lang/String", "hash", "I", false)
  | _ => ("java/lang/String", "hashIsZero", "Z", false)
def tyJ0 : Nat → FieldType := fun k => match k with
  | 0 => .array .byte
  | 1 => .byte
  | 2 => .int
  | _ => .boolean
abbrev wsJ00 : List Cond := u_ws RJ0 TJ0 4
theorem nmJ0 : ∀ a, a < 4 → ∀ b, b < 4 → a ≠ b → (TJ0 a).2.1 ≠ (TJ0 b).2.1 := by decide +kernel
theorem tyJ0_ok : ∀ k, k < 4 → parseFieldDescriptor (TJ0 k).2.2.1 = some (tyJ0 k) := by decide +kernel
abbrev cJ0_init_81219 : ByteArray := prog_29_method_53_code
def yJ0_init_81219 : MethodName := ⟨RJ0, "<init>", "(Ljava/lang/StringBuilder;)V"⟩
abbrev cJ0_length_8abf5 : ByteArray := prog_29_method_54_code
def yJ0_length_8abf5 : MethodName := ⟨RJ0, "length", "()I"⟩
abbrev cJ0_charAt_5068e : ByteArray := prog_29_method_56_code
def yJ0_charAt_5068e : MethodName := ⟨RJ0, "charAt", "(I)C"⟩
abbrev cJ0_getBytes_840e7 : ByteArray := prog_29_method_147_code
def yJ0_getBytes_840e7 : MethodName := ⟨RJ0, "getBytes", "([BIB)V"⟩
abbrev cJ0_init_db425 : ByteArray := prog_29_method_150_code
def yJ0_init_db425 : MethodName := ⟨RJ0, "<init>", "(Ljava/lang/AbstractStringBuilder;Ljava/lang/Void;)V"⟩
abbrev cJ0_coder_7d493 : ByteArray := prog_29_method_152_code
def yJ0_coder_7d493 : MethodName := ⟨RJ0, "coder", "()B"⟩
abbrev cJ0_isLatin1_aae02 : ByteArray := prog_29_method_154_code
def yJ0_isLatin1_aae02 : MethodName := ⟨RJ0, "isLatin1", "()Z"⟩
abbrev cJ0_checkIndex_df160 : ByteArray := prog_29_method_155_code
def yJ0_checkIndex_df160 : MethodName := ⟨RJ0, "checkIndex", "(II)V"⟩
abbrev cJ0_checkBoundsOffCount_cabcc : ByteArray := prog_29_method_157_code
def yJ0_checkBoundsOffCount_cabcc : MethodName := ⟨RJ0, "checkBoundsOffCount", "(III)I"⟩
abbrev cJ0_checkBoundsBeginEnd_23922 : ByteArray := prog_29_method_158_code
def yJ0_checkBoundsBeginEnd_23922 : MethodName := ⟨RJ0, "checkBoundsBeginEnd", "(III)V"⟩
def RJ4 : String := "java/lang/StringBuilder"
def TJ4 : u_T := fun k => match k with
  | 0 => ("java/lang/AbstractStringBuilder", "value", "[B", false)
  | 1 => ("java/lang/AbstractStringBuilder", "coder", "B", false)
  | 2 => ("java/lang/AbstractStringBuilder", "maybeLatin1", "Z", false)
  | _ => ("java/lang/AbstractStringBuilder", "count", "I", false)
def tyJ4 : Nat → FieldType := fun k => match k with
  | 0 => .array .byte
  | 1 => .byte
  | 2 => .boolean
  | _ => .int
abbrev wsJ40 : List Cond := u_ws RJ4 TJ4 4
theorem nmJ4 : ∀ a, a < 4 → ∀ b, b < 4 → a ≠ b → (TJ4 a).2.1 ≠ (TJ4 b).2.1 := by decide +kernel
theorem tyJ4_ok : ∀ k, k < 4 → parseFieldDescriptor (TJ4 k).2.2.1 = some (tyJ4 k) := by decide +kernel
abbrev cJ4_init_da8c8 : ByteArray := prog_30_method_1_code
def yJ4_init_da8c8 : MethodName := ⟨RJ4, "<init>", "()V"⟩
abbrev cJ4_append_15ec4 : ByteArray := prog_30_method_7_code
def yJ4_append_15ec4 : MethodName := ⟨RJ4, "append", "(Ljava/lang/String;)Ljava/lang/StringBuilder;"⟩
abbrev cJ4_append_cf468 : ByteArray := prog_30_method_14_code
def yJ4_append_cf468 : MethodName := ⟨RJ4, "append", "(C)Ljava/lang/StringBuilder;"⟩
abbrev cJ4_append_bf812 : ByteArray := prog_30_method_15_code
def yJ4_append_bf812 : MethodName := ⟨RJ4, "append", "(I)Ljava/lang/StringBuilder;"⟩
abbrev cJ4_toString_0e30d : ByteArray := prog_30_method_42_code
def yJ4_toString_0e30d : MethodName := ⟨RJ4, "toString", "()Ljava/lang/String;"⟩
abbrev cJ4_setLength_d00df : ByteArray := prog_30_method_89_code
def yJ4_setLength_d00df : MethodName := ⟨RJ4, "setLength", "(I)V"⟩
abbrev cJ4_length_8abf5 : ByteArray := prog_30_method_93_code
def yJ4_length_8abf5 : MethodName := ⟨RJ4, "length", "()I"⟩
def RJx7c733 : String := "java/lang/StringIndexOutOfBoundsException"
def TJx7c733 : u_T := fun k => match k with
  | 0 => ("java/lang/Throwable", "backtrace", "Ljava/lang/Object;", false)
  | 1 => ("java/lang/Throwable", "detailMessage", "Ljava/lang/String;", false)
  | 2 => ("java/lang/Throwable", "cause", "Ljava/lang/Throwable;", false)
  | 3 => ("java/lang/Throwable", "stackTrace", "[Ljava/lang/StackTraceElement;", false)
  | 4 => ("java/lang/Throwable", "depth", "I", false)
  | _ => ("java/lang/Throwable", "suppressedExceptions", "Ljava/util/List;", false)
def tyJx7c733 : Nat → FieldType := fun k => match k with
  | 0 => .object "java/lang/Object"
  | 1 => .object "java/lang/String"
  | 2 => .object "java/lang/Throwable"
  | 3 => .array (.object "java/lang/StackTraceElement")
  | 4 => .int
  | _ => .object "java/util/List"
abbrev wsJx7c7330 : List Cond := u_ws RJx7c733 TJx7c733 6
theorem nmJx7c733 : ∀ a, a < 6 → ∀ b, b < 6 → a ≠ b → (TJx7c733 a).2.1 ≠ (TJx7c733 b).2.1 := by decide +kernel
theorem tyJx7c733_ok : ∀ k, k < 6 → parseFieldDescriptor (TJx7c733 k).2.2.1 = some (tyJx7c733 k) := by decide +kernel
abbrev cJx7c733_init_d00df : ByteArray := prog_31_method_3_code
def yJx7c733_init_d00df : MethodName := ⟨RJx7c733, "<init>", "(I)V"⟩
def RJ1 : String := "java/lang/StringLatin1"
def TJ1 : u_T := fun k => match k with
  | _ => ("", "", "", false)
def tyJ1 : Nat → FieldType := fun k => match k with
  | _ => .int
abbrev wsJ10 : List Cond := u_ws RJ1 TJ1 0
theorem nmJ1 : ∀ a, a < 0 → ∀ b, b < 0 → a ≠ b → (TJ1 a).2.1 ≠ (TJ1 b).2.1 := by decide +kernel
theorem tyJ1_ok : ∀ k, k < 0 → parseFieldDescriptor (TJ1 k).2.2.1 = some (tyJ1 k) := by decide +kernel
abbrev cJ1_charAt_3b067 : ByteArray := prog_32_method_2_code
def yJ1_charAt_3b067 : MethodName := ⟨RJ1, "charAt", "([BI)C"⟩
abbrev cJ1_canEncode_fc78d : ByteArray := prog_32_method_3_code
def yJ1_canEncode_fc78d : MethodName := ⟨RJ1, "canEncode", "(C)Z"⟩
abbrev cJ1_fillNull_b72d1 : ByteArray := prog_32_method_48_code
def yJ1_fillNull_b72d1 : MethodName := ⟨RJ1, "fillNull", "([BII)V"⟩
abbrev cJ1_inflate_0e8fd : ByteArray := prog_32_method_50_code
def yJ1_inflate_0e8fd : MethodName := ⟨RJ1, "inflate", "([BI[BII)V"⟩
def RJ2 : String := "java/lang/StringUTF16"
def TJ2 : u_T := fun k => match k with
  | _ => ("", "", "", false)
def tyJ2 : Nat → FieldType := fun k => match k with
  | _ => .int
abbrev wsJ20 : List Cond := u_ws RJ2 TJ2 0
theorem nmJ2 : ∀ a, a < 0 → ∀ b, b < 0 → a ≠ b → (TJ2 a).2.1 ≠ (TJ2 b).2.1 := by decide +kernel
theorem tyJ2_ok : ∀ k, k < 0 → parseFieldDescriptor (TJ2 k).2.2.1 = some (tyJ2 k) := by decide +kernel
abbrev cJ2_newBytesFor_77867 : ByteArray := prog_33_method_2_code
def yJ2_newBytesFor_77867 : MethodName := ⟨RJ2, "newBytesFor", "(I)[B"⟩
abbrev cJ2_newBytesLength_0f7a4 : ByteArray := prog_33_method_3_code
def yJ2_newBytesLength_0f7a4 : MethodName := ⟨RJ2, "newBytesLength", "(I)I"⟩
abbrev cJ2_putChar_b72d1 : ByteArray := prog_33_method_4_code
def yJ2_putChar_b72d1 : MethodName := ⟨RJ2, "putChar", "([BII)V"⟩
abbrev cJ2_getChar_3b067 : ByteArray := prog_33_method_5_code
def yJ2_getChar_3b067 : MethodName := ⟨RJ2, "getChar", "([BI)C"⟩
abbrev cJ2_length_9d52b : ByteArray := prog_33_method_6_code
def yJ2_length_9d52b : MethodName := ⟨RJ2, "length", "([B)I"⟩
abbrev cJ2_coderFromArrayLen_85cad : ByteArray := prog_33_method_15_code
def yJ2_coderFromArrayLen_85cad : MethodName := ⟨RJ2, "coderFromArrayLen", "([BI)B"⟩
abbrev cJ2_compress_39247 : ByteArray := prog_33_method_17_code
def yJ2_compress_39247 : MethodName := ⟨RJ2, "compress", "([BII)[B"⟩
abbrev cJ2_compress_5af95 : ByteArray := prog_33_method_22_code
def yJ2_compress_5af95 : MethodName := ⟨RJ2, "compress", "([BI[BII)I"⟩
abbrev cJ2_fillNull_b72d1 : ByteArray := prog_33_method_70_code
def yJ2_fillNull_b72d1 : MethodName := ⟨RJ2, "fillNull", "([BII)V"⟩
abbrev cJ2_putCharSB_b72d1 : ByteArray := prog_33_method_71_code
def yJ2_putCharSB_b72d1 : MethodName := ⟨RJ2, "putCharSB", "([BII)V"⟩
abbrev cJ2_getChars_46870 : ByteArray := prog_33_method_77_code
def yJ2_getChars_46870 : MethodName := ⟨RJ2, "getChars", "(III[B)I"⟩
abbrev cJ2_putCharsAt_cd4e5 : ByteArray := prog_33_method_81_code
def yJ2_putCharsAt_cd4e5 : MethodName := ⟨RJ2, "putCharsAt", "([BICCCC)I"⟩
abbrev cJ2_charAt_3b067 : ByteArray := prog_33_method_83_code
def yJ2_charAt_3b067 : MethodName := ⟨RJ2, "charAt", "([BI)C"⟩
abbrev cJ2_inflate_0e8fd : ByteArray := prog_33_method_86_code
def yJ2_inflate_0e8fd : MethodName := ⟨RJ2, "inflate", "([BI[BII)V"⟩
abbrev cJ2_getChars_ba4f3 : ByteArray := prog_33_method_89_code
def yJ2_getChars_ba4f3 : MethodName := ⟨RJ2, "getChars", "(II[B)I"⟩
abbrev cJ2_checkIndex_2214a : ByteArray := prog_33_method_91_code
def yJ2_checkIndex_2214a : MethodName := ⟨RJ2, "checkIndex", "(I[B)V"⟩
abbrev cJ2_checkBoundsBeginEnd_d044e : ByteArray := prog_33_method_93_code
def yJ2_checkBoundsBeginEnd_d044e : MethodName := ⟨RJ2, "checkBoundsBeginEnd", "(II[B)V"⟩
abbrev cJ2_checkBoundsOffCount_d044e : ByteArray := prog_33_method_94_code
def yJ2_checkBoundsOffCount_d044e : MethodName := ⟨RJ2, "checkBoundsOffCount", "(II[B)V"⟩
def RJ10 : String := "java/lang/System"
def TJ10 : u_T := fun k => match k with
  | _ => ("", "", "", false)
def tyJ10 : Nat → FieldType := fun k => match k with
  | _ => .int
abbrev wsJ100 : List Cond := u_ws RJ10 TJ10 0
theorem nmJ10 : ∀ a, a < 0 → ∀ b, b < 0 → a ≠ b → (TJ10 a).2.1 ≠ (TJ10 b).2.1 := by decide +kernel
theorem tyJ10_ok : ∀ k, k < 0 → parseFieldDescriptor (TJ10 k).2.2.1 = some (tyJ10 k) := by decide +kernel
def RJxfd54e : String := "java/lang/constant/Constable"
def TJxfd54e : u_T := fun k => match k with
  | _ => ("", "", "", false)
def tyJxfd54e : Nat → FieldType := fun k => match k with
  | _ => .int
abbrev wsJxfd54e0 : List Cond := u_ws RJxfd54e TJxfd54e 0
theorem nmJxfd54e : ∀ a, a < 0 → ∀ b, b < 0 → a ≠ b → (TJxfd54e a).2.1 ≠ (TJxfd54e b).2.1 := by decide +kernel
theorem tyJxfd54e_ok : ∀ k, k < 0 → parseFieldDescriptor (TJxfd54e k).2.2.1 = some (tyJxfd54e k) := by decide +kernel
def RJx3cf43 : String := "java/lang/constant/ConstantDesc"
def TJx3cf43 : u_T := fun k => match k with
  | _ => ("", "", "", false)
def tyJx3cf43 : Nat → FieldType := fun k => match k with
  | _ => .int
abbrev wsJx3cf430 : List Cond := u_ws RJx3cf43 TJx3cf43 0
theorem nmJx3cf43 : ∀ a, a < 0 → ∀ b, b < 0 → a ≠ b → (TJx3cf43 a).2.1 ≠ (TJx3cf43 b).2.1 := by decide +kernel
theorem tyJx3cf43_ok : ∀ k, k < 0 → parseFieldDescriptor (TJx3cf43 k).2.2.1 = some (tyJx3cf43 k) := by decide +kernel
def RJ7 : String := "java/util/Arrays"
def TJ7 : u_T := fun k => match k with
  | _ => ("", "", "", false)
def tyJ7 : Nat → FieldType := fun k => match k with
  | _ => .int
abbrev wsJ70 : List Cond := u_ws RJ7 TJ7 0
theorem nmJ7 : ∀ a, a < 0 → ∀ b, b < 0 → a ≠ b → (TJ7 a).2.1 ≠ (TJ7 b).2.1 := by decide +kernel
theorem tyJ7_ok : ∀ k, k < 0 → parseFieldDescriptor (TJ7 k).2.2.1 = some (tyJ7 k) := by decide +kernel
abbrev cJ7_rangeCheck_23922 : ByteArray := prog_39_method_30_code
def yJ7_rangeCheck_23922 : MethodName := ⟨RJ7, "rangeCheck", "(III)V"⟩
abbrev cJ7_fill_eb02e : ByteArray := prog_39_method_110_code
def yJ7_fill_eb02e : MethodName := ⟨RJ7, "fill", "([BIIB)V"⟩
abbrev cJ7_copyOf_9075b : ByteArray := prog_39_method_121_code
def yJ7_copyOf_9075b : MethodName := ⟨RJ7, "copyOf", "([BI)[B"⟩
abbrev cJ7_checkLength_df160 : ByteArray := prog_39_method_131_code
def yJ7_checkLength_df160 : MethodName := ⟨RJ7, "checkLength", "(II)V"⟩
abbrev cJ7_copyOfRange_39247 : ByteArray := prog_39_method_132_code
def yJ7_copyOfRange_39247 : MethodName := ⟨RJ7, "copyOfRange", "([BII)[B"⟩
abbrev cJ7_copyOfRangeByte_39247 : ByteArray := prog_39_method_133_code
def yJ7_copyOfRangeByte_39247 : MethodName := ⟨RJ7, "copyOfRangeByte", "([BII)[B"⟩
def RJ8 : String := "jdk/internal/util/ArraysSupport"
def TJ8 : u_T := fun k => match k with
  | _ => ("", "", "", false)
def tyJ8 : Nat → FieldType := fun k => match k with
  | _ => .int
abbrev wsJ80 : List Cond := u_ws RJ8 TJ8 0
theorem nmJ8 : ∀ a, a < 0 → ∀ b, b < 0 → a ≠ b → (TJ8 a).2.1 ≠ (TJ8 b).2.1 := by decide +kernel
theorem tyJ8_ok : ∀ k, k < 0 → parseFieldDescriptor (TJ8 k).2.2.1 = some (tyJ8 k) := by decide +kernel
abbrev cJ8_newLength_cabcc : ByteArray := prog_41_method_27_code
def yJ8_newLength_cabcc : MethodName := ⟨RJ8, "newLength", "(III)I"⟩
abbrev cJ8_hugeLength_7cf53 : ByteArray := prog_41_method_28_code
def yJ8_hugeLength_7cf53 : MethodName := ⟨RJ8, "hugeLength", "(II)I"⟩
def RJ3 : String := "jdk/internal/util/Preconditions"
def TJ3 : u_T := fun k => match k with
  | _ => ("", "", "", false)
def tyJ3 : Nat → FieldType := fun k => match k with
  | _ => .int
abbrev wsJ30 : List Cond := u_ws RJ3 TJ3 0
theorem nmJ3 : ∀ a, a < 0 → ∀ b, b < 0 → a ≠ b → (TJ3 a).2.1 ≠ (TJ3 b).2.1 := by decide +kernel
theorem tyJ3_ok : ∀ k, k < 0 → parseFieldDescriptor (TJ3 k).2.2.1 = some (tyJ3 k) := by decide +kernel
abbrev cJ3_checkIndex_8e157 : ByteArray := prog_42_method_11_code
def yJ3_checkIndex_8e157 : MethodName := ⟨RJ3, "checkIndex", "(IILjava/util/function/BiFunction;)I"⟩
abbrev cJ3_checkFromToIndex_8c36e : ByteArray := prog_42_method_12_code
def yJ3_checkFromToIndex_8c36e : MethodName := ⟨RJ3, "checkFromToIndex", "(IIILjava/util/function/BiFunction;)I"⟩
abbrev cJ3_checkFromIndexSize_8c36e : ByteArray := prog_42_method_13_code
def yJ3_checkFromIndexSize_8c36e : MethodName := ⟨RJ3, "checkFromIndexSize", "(IIILjava/util/function/BiFunction;)I"⟩
def RL : String := "GlidingContestLaw"
abbrev cL_cell : ByteArray := method_2_code
def yL_cell : MethodName := ⟨RL, "cell", "([II)I"⟩
abbrev cL_addPoint : ByteArray := method_3_code
def yL_addPoint : MethodName := ⟨RL, "addPoint", "(LGlidingContest;II)I"⟩
abbrev cL_addTaskPoint : ByteArray := method_4_code
def yL_addTaskPoint : MethodName := ⟨RL, "addTaskPoint", "(LGlidingContest;I)I"⟩
abbrev cL_clearTask : ByteArray := method_5_code
def yL_clearTask : MethodName := ⟨RL, "clearTask", "(LGlidingContest;)I"⟩
abbrev cL_addThermal : ByteArray := method_6_code
def yL_addThermal : MethodName := ⟨RL, "addThermal", "(LGlidingContest;III)I"⟩
abbrev cL_setCloudBase : ByteArray := method_7_code
def yL_setCloudBase : MethodName := ⟨RL, "setCloudBase", "(LGlidingContest;I)I"⟩
abbrev cL_addArea : ByteArray := method_8_code
def yL_addArea : MethodName := ⟨RL, "addArea", "(LGlidingContest;IIII)I"⟩
abbrev cL_addPilot : ByteArray := method_9_code
def yL_addPilot : MethodName := ⟨RL, "addPilot", "(LGlidingContest;I)I"⟩
abbrev cL_launch : ByteArray := method_10_code
def yL_launch : MethodName := ⟨RL, "launch", "(LGlidingContest;I)I"⟩
abbrev cL_fly : ByteArray := method_11_code
def yL_fly : MethodName := ⟨RL, "fly", "(LGlidingContest;III)I"⟩
abbrev cL_climb : ByteArray := method_12_code
def yL_climb : MethodName := ⟨RL, "climb", "(LGlidingContest;II)I"⟩
abbrev cL_endDay : ByteArray := method_13_code
def yL_endDay : MethodName := ⟨RL, "endDay", "(LGlidingContest;)I"⟩
abbrev cL_strongestThermal : ByteArray := method_14_code
def yL_strongestThermal : MethodName := ⟨RL, "strongestThermal", "(LGlidingContest;II)I"⟩
abbrev cL_remainingDistance : ByteArray := method_15_code
def yL_remainingDistance : MethodName := ⟨RL, "remainingDistance", "(LGlidingContest;I)I"⟩
abbrev cL_pilotAtRank : ByteArray := method_16_code
def yL_pilotAtRank : MethodName := ⟨RL, "pilotAtRank", "(LGlidingContest;I)I"⟩
abbrev cL_run : ByteArray := method_17_code
def yL_run : MethodName := ⟨RL, "run", "(LGlidingContest;)I"⟩
abbrev cL_undo : ByteArray := method_18_code
def yL_undo : MethodName := ⟨RL, "undo", "(LGlidingContest;)I"⟩
abbrev cL_restore : ByteArray := method_19_code
def yL_restore : MethodName := ⟨RL, "restore", "(LGlidingContest;)I"⟩
abbrev cL_in : ByteArray := method_20_code
def yL_in : MethodName := ⟨RL, "in", "([III)I"⟩
abbrev cL_does : ByteArray := method_21_code
def yL_does : MethodName := ⟨RL, "does", "(LGlidingContest;Ljava/lang/String;)I"⟩
abbrev cL_begun : ByteArray := method_22_code
def yL_begun : MethodName := ⟨RL, "begun", "([I)LGlidingContest;"⟩
abbrev cL_heads : ByteArray := method_23_code
def yL_heads : MethodName := ⟨RL, "heads", "(LGlidingContest;II)I"⟩
abbrev cL_acts : ByteArray := method_24_code
def yL_acts : MethodName := ⟨RL, "acts", "(LGlidingContest;[II)I"⟩
abbrev cL_seen : ByteArray := method_25_code
def yL_seen : MethodName := ⟨RL, "seen", "(LGlidingContest;)[I"⟩
abbrev cL_areAlike : ByteArray := method_26_code
def yL_areAlike : MethodName := ⟨RL, "areAlike", "([I[I)Z"⟩
abbrev cL_legs : ByteArray := method_27_code
def yL_legs : MethodName := ⟨RL, "legs", "(LGlidingContest;I)I"⟩
abbrev cL_isWell : ByteArray := method_28_code
def yL_isWell : MethodName := ⟨RL, "isWell", "(LGlidingContest;)Z"⟩
abbrev cL_law : ByteArray := code
def yL_law : MethodName := ⟨RL, "law", "([I)Z"⟩
abbrev vwCl : List vw_C := [(RJ0, TJ0, 2), (RJ4, TJ4, 4), (RJx00060, TJx00060, 6), (RJx7c733, TJx7c733, 6), (RX0, TX0, 5), (RX1, TX1, 7), (RX2, TX2, 6), (RX3, TX3, 9), (RX4, TX4, 2), (RX7, TX7, 6), (RX8, TX8, 8), (RX9, TX9, 9), (RJ0, TJ0, 4)]
