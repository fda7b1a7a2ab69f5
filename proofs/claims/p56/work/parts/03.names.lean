def RX0 : String := "DoorAcademy$History"
def TX0 : u_T := fun k => match k with
  | 0 => ("DoorAcademy$History", "slots", "[LDoorAcademy$State;", true)
  | 1 => ("DoorAcademy$History", "free", "I", false)
  | _ => ("DoorAcademy$History", "kept", "I", false)
def tyX0 : Nat → FieldType := fun k => match k with
  | 0 => .array (.object "DoorAcademy$State")
  | 1 => .int
  | _ => .int
abbrev wsX00 : List Cond := u_ws RX0 TX0 3
theorem nmX0 : ∀ a, a < 3 → ∀ b, b < 3 → a ≠ b → (TX0 a).2.1 ≠ (TX0 b).2.1 := by decide +kernel
theorem tyX0_ok : ∀ k, k < 3 → parseFieldDescriptor (TX0 k).2.2.1 = some (tyX0 k) := by decide +kernel
abbrev cX0_init : ByteArray := prog_2_method_1_code
def yX0_init : MethodName := ⟨RX0, "<init>", "()V"⟩
abbrev cX0_prepare : ByteArray := prog_2_method_2_code
def yX0_prepare : MethodName := ⟨RX0, "prepare", "(LDoorAcademy$State;)V"⟩
abbrev cX0_takeBack : ByteArray := prog_2_method_3_code
def yX0_takeBack : MethodName := ⟨RX0, "takeBack", "(LDoorAcademy$State;)V"⟩
abbrev cX0_commit : ByteArray := prog_2_method_4_code
def yX0_commit : MethodName := ⟨RX0, "commit", "()V"⟩
abbrev cX0_stepBack : ByteArray := prog_2_method_5_code
def yX0_stepBack : MethodName := ⟨RX0, "stepBack", "(LDoorAcademy$State;)V"⟩
def RX1 : String := "DoorAcademy$Line"
def TX1 : u_T := fun k => match k with
  | 0 => ("DoorAcademy$Line", "characters", "[C", true)
  | _ => ("DoorAcademy$Line", "length", "I", false)
def tyX1 : Nat → FieldType := fun k => match k with
  | 0 => .array .char
  | _ => .int
abbrev wsX10 : List Cond := u_ws RX1 TX1 2
theorem nmX1 : ∀ a, a < 2 → ∀ b, b < 2 → a ≠ b → (TX1 a).2.1 ≠ (TX1 b).2.1 := by decide +kernel
theorem tyX1_ok : ∀ k, k < 2 → parseFieldDescriptor (TX1 k).2.2.1 = some (tyX1 k) := by decide +kernel
abbrev cX1_init : ByteArray := prog_3_method_1_code
def yX1_init : MethodName := ⟨RX1, "<init>", "()V"⟩
abbrev cX1_showDoor : ByteArray := prog_3_method_2_code
def yX1_showDoor : MethodName := ⟨RX1, "showDoor", "(LDoorAcademy$State;I)V"⟩
abbrev cX1_showExaminer : ByteArray := prog_3_method_3_code
def yX1_showExaminer : MethodName := ⟨RX1, "showExaminer", "(LDoorAcademy$State;I)V"⟩
abbrev cX1_putIfThere : ByteArray := prog_3_method_4_code
def yX1_putIfThere : MethodName := ⟨RX1, "putIfThere", "(CI)V"⟩
abbrev cX1_putNumber : ByteArray := prog_3_method_5_code
def yX1_putNumber : MethodName := ⟨RX1, "putNumber", "(I)V"⟩
abbrev cX1_put : ByteArray := prog_3_method_6_code
def yX1_put : MethodName := ⟨RX1, "put", "(C)V"⟩
def RX2 : String := "DoorAcademy$Panels"
def TX2 : u_T := fun k => match k with
  | _ => ("DoorAcademy$Panels", "suitableByFrame", "[I", true)
def tyX2 : Nat → FieldType := fun k => match k with
  | _ => .array .int
abbrev wsX20 : List Cond := u_ws RX2 TX2 1
theorem nmX2 : ∀ a, a < 1 → ∀ b, b < 1 → a ≠ b → (TX2 a).2.1 ≠ (TX2 b).2.1 := by decide +kernel
theorem tyX2_ok : ∀ k, k < 1 → parseFieldDescriptor (TX2 k).2.2.1 = some (tyX2 k) := by decide +kernel
abbrev cX2_init : ByteArray := prog_4_method_1_code
def yX2_init : MethodName := ⟨RX2, "<init>", "()V"⟩
abbrev cX2_countByTrying : ByteArray := prog_4_method_2_code
def yX2_countByTrying : MethodName := ⟨RX2, "countByTrying", "(LDoorAcademy$State;I)I"⟩
abbrev cX2_countByFrames : ByteArray := prog_4_method_3_code
def yX2_countByFrames : MethodName := ⟨RX2, "countByFrames", "(LDoorAcademy$State;I)I"⟩
abbrev cX2_firstFor : ByteArray := prog_4_method_4_code
def yX2_firstFor : MethodName := ⟨RX2, "firstFor", "(LDoorAcademy$State;I)I"⟩
abbrev cX2_tryAppeal : ByteArray := prog_4_method_5_code
def yX2_tryAppeal : MethodName := ⟨RX2, "tryAppeal", "(LDoorAcademy$State;I)I"⟩
abbrev cX2_votes : ByteArray := prog_4_method_6_code
def yX2_votes : MethodName := ⟨RX2, "votes", "(LDoorAcademy$State;II)I"⟩
abbrev cX2_isPanel : ByteArray := prog_4_method_7_code
def yX2_isPanel : MethodName := ⟨RX2, "isPanel", "(LDoorAcademy$State;IIII)Z"⟩
abbrev cX2_suits : ByteArray := prog_4_method_8_code
def yX2_suits : MethodName := ⟨RX2, "suits", "(LDoorAcademy$State;II)Z"⟩
abbrev cX2_suitableWithFrame : ByteArray := prog_4_method_9_code
def yX2_suitableWithFrame : MethodName := ⟨RX2, "suitableWithFrame", "(LDoorAcademy$State;IC)I"⟩
def RX3 : String := "DoorAcademy$Planner"
def TX3 : u_T := fun k => match k with
  | 0 => ("DoorAcademy$Planner", "doors", "I", false)
  | 1 => ("DoorAcademy$Planner", "candidates", "[I", true)
  | 2 => ("DoorAcademy$Planner", "room", "[I", true)
  | 3 => ("DoorAcademy$Planner", "choices", "[I", true)
  | 4 => ("DoorAcademy$Planner", "given", "[I", true)
  | 5 => ("DoorAcademy$Planner", "used", "[I", true)
  | 6 => ("DoorAcademy$Planner", "reachedFrom", "[I", true)
  | 7 => ("DoorAcademy$Planner", "queue", "[I", true)
  | _ => ("DoorAcademy$Planner", "reachable", "[Z", true)
def tyX3 : Nat → FieldType := fun k => match k with
  | 0 => .int
  | 1 => .array .int
  | 2 => .array .int
  | 3 => .array .int
  | 4 => .array .int
  | 5 => .array .int
  | 6 => .array .int
  | 7 => .array .int
  | _ => .array .boolean
abbrev wsX30 : List Cond := u_ws RX3 TX3 9
theorem nmX3 : ∀ a, a < 9 → ∀ b, b < 9 → a ≠ b → (TX3 a).2.1 ≠ (TX3 b).2.1 := by decide +kernel
theorem tyX3_ok : ∀ k, k < 9 → parseFieldDescriptor (TX3 k).2.2.1 = some (tyX3 k) := by decide +kernel
abbrev cX3_init : ByteArray := prog_5_method_1_code
def yX3_init : MethodName := ⟨RX3, "<init>", "()V"⟩
abbrev cX3_sizeByExchanges : ByteArray := prog_5_method_2_code
def yX3_sizeByExchanges : MethodName := ⟨RX3, "sizeByExchanges", "(LDoorAcademy$State;)I"⟩
abbrev cX3_sizeBySets : ByteArray := prog_5_method_3_code
def yX3_sizeBySets : MethodName := ⟨RX3, "sizeBySets", "(LDoorAcademy$State;)I"⟩
abbrev cX3_findBest : ByteArray := prog_5_method_4_code
def yX3_findBest : MethodName := ⟨RX3, "findBest", "(LDoorAcademy$State;)V"⟩
abbrev cX3_survey : ByteArray := prog_5_method_5_code
def yX3_survey : MethodName := ⟨RX3, "survey", "(LDoorAcademy$State;)V"⟩
abbrev cX3_candidatesFor : ByteArray := prog_5_method_6_code
def yX3_candidatesFor : MethodName := ⟨RX3, "candidatesFor", "(LDoorAcademy$State;I)I"⟩
abbrev cX3_bestChoice : ByteArray := prog_5_method_7_code
def yX3_bestChoice : MethodName := ⟨RX3, "bestChoice", "(II)I"⟩
abbrev cX3_greatestFrom : ByteArray := prog_5_method_8_code
def yX3_greatestFrom : MethodName := ⟨RX3, "greatestFrom", "(I)I"⟩
abbrev cX3_addByExchanges : ByteArray := prog_5_method_9_code
def yX3_addByExchanges : MethodName := ⟨RX3, "addByExchanges", "(I)Z"⟩
abbrev cX3_enqueueDoorsOf : ByteArray := prog_5_method_10_code
def yX3_enqueueDoorsOf : MethodName := ⟨RX3, "enqueueDoorsOf", "(II)I"⟩
abbrev cX3_exchange : ByteArray := prog_5_method_11_code
def yX3_exchange : MethodName := ⟨RX3, "exchange", "(I)V"⟩
abbrev cX3_extendSets : ByteArray := prog_5_method_12_code
def yX3_extendSets : MethodName := ⟨RX3, "extendSets", "(I)V"⟩
def RX4 : String := "DoorAcademy$Program"
def TX4 : u_T := fun k => match k with
  | 0 => ("DoorAcademy$Program", "text", "[C", true)
  | 1 => ("DoorAcademy$Program", "length", "I", false)
  | 2 => ("DoorAcademy$Program", "commands", "I", false)
  | 3 => ("DoorAcademy$Program", "kinds", "[I", true)
  | _ => ("DoorAcademy$Program", "operands", "[[I", true)
def tyX4 : Nat → FieldType := fun k => match k with
  | 0 => .array .char
  | 1 => .int
  | 2 => .int
  | 3 => .array .int
  | _ => .array (.array .int)
abbrev wsX40 : List Cond := u_ws RX4 TX4 5
theorem nmX4 : ∀ a, a < 5 → ∀ b, b < 5 → a ≠ b → (TX4 a).2.1 ≠ (TX4 b).2.1 := by decide +kernel
theorem tyX4_ok : ∀ k, k < 5 → parseFieldDescriptor (TX4 k).2.2.1 = some (tyX4 k) := by decide +kernel
abbrev cX4_init : ByteArray := prog_6_method_1_code
def yX4_init : MethodName := ⟨RX4, "<init>", "()V"⟩
abbrev cX4_isFull : ByteArray := prog_6_method_2_code
def yX4_isFull : MethodName := ⟨RX4, "isFull", "()Z"⟩
abbrev cX4_extend : ByteArray := prog_6_method_3_code
def yX4_extend : MethodName := ⟨RX4, "extend", "(C)V"⟩
abbrev cX4_empty : ByteArray := prog_6_method_4_code
def yX4_empty : MethodName := ⟨RX4, "empty", "()V"⟩
abbrev cX4_parse : ByteArray := prog_6_method_5_code
def yX4_parse : MethodName := ⟨RX4, "parse", "()I"⟩
abbrev cX4_readCommand : ByteArray := prog_6_method_6_code
def yX4_readCommand : MethodName := ⟨RX4, "readCommand", "(II)I"⟩
abbrev cX4_match : ByteArray := prog_6_method_7_code
def yX4_match : MethodName := ⟨RX4, "match", "(Ljava/lang/String;II)I"⟩
abbrev cX4_shapeOf : ByteArray := prog_6_method_8_code
def yX4_shapeOf : MethodName := ⟨RX4, "shapeOf", "(I)Ljava/lang/String;"⟩
abbrev cX4_fits : ByteArray := prog_6_method_9_code
def yX4_fits : MethodName := ⟨RX4, "fits", "(CC)Z"⟩
abbrev cX4_isOperand : ByteArray := prog_6_method_10_code
def yX4_isOperand : MethodName := ⟨RX4, "isOperand", "(C)Z"⟩
abbrev cX4_isDigit : ByteArray := prog_6_method_11_code
def yX4_isDigit : MethodName := ⟨RX4, "isDigit", "(C)Z"⟩
abbrev cX4_errorAt : ByteArray := prog_6_method_12_code
def yX4_errorAt : MethodName := ⟨RX4, "errorAt", "(I)I"⟩
abbrev cX4_errorOf : ByteArray := prog_6_method_13_code
def yX4_errorOf : MethodName := ⟨RX4, "errorOf", "(I)I"⟩
def RX5 : String := "DoorAcademy$State"
def TX5 : u_T := fun k => match k with
  | 0 => ("DoorAcademy$State", "appealed", "I", false)
  | 1 => ("DoorAcademy$State", "granted", "I", false)
  | 2 => ("DoorAcademy$State", "revoked", "I", false)
  | 3 => ("DoorAcademy$State", "doors", "I", false)
  | 4 => ("DoorAcademy$State", "doorFrames", "[C", true)
  | 5 => ("DoorAcademy$State", "doorTopics", "[I", true)
  | 6 => ("DoorAcademy$State", "examiners", "I", false)
  | 7 => ("DoorAcademy$State", "examinerFrames", "[C", true)
  | 8 => ("DoorAcademy$State", "topicSets", "[I", true)
  | 9 => ("DoorAcademy$State", "capacities", "[I", true)
  | 10 => ("DoorAcademy$State", "leniences", "[I", true)
  | 11 => ("DoorAcademy$State", "conflicts", "[I", true)
  | 12 => ("DoorAcademy$State", "assignments", "[I", true)
  | 13 => ("DoorAcademy$State", "grades", "[[I", true)
  | 14 => ("DoorAcademy$State", "threshold", "I", false)
  | 15 => ("DoorAcademy$State", "entries", "I", false)
  | _ => ("DoorAcademy$State", "entryDoors", "[I", true)
def tyX5 : Nat → FieldType := fun k => match k with
  | 0 => .int
  | 1 => .int
  | 2 => .int
  | 3 => .int
  | 4 => .array .char
  | 5 => .array .int
  | 6 => .int
  | 7 => .array .char
  | 8 => .array .int
  | 9 => .array .int
  | 10 => .array .int
  | 11 => .array .int
  | 12 => .array .int
  | 13 => .array (.array .int)
  | 14 => .int
  | 15 => .int
  | _ => .array .int
abbrev wsX50 : List Cond := u_ws RX5 TX5 17
theorem nmX5 : ∀ a, a < 17 → ∀ b, b < 17 → a ≠ b → (TX5 a).2.1 ≠ (TX5 b).2.1 := by decide +kernel
theorem tyX5_ok : ∀ k, k < 17 → parseFieldDescriptor (TX5 k).2.2.1 = some (tyX5 k) := by decide +kernel
abbrev cX5_init : ByteArray := prog_7_method_1_code
def yX5_init : MethodName := ⟨RX5, "<init>", "()V"⟩
abbrev cX5_copyFrom : ByteArray := prog_7_method_2_code
def yX5_copyFrom : MethodName := ⟨RX5, "copyFrom", "(LDoorAcademy$State;)V"⟩
abbrev cX5_hasDoor : ByteArray := prog_7_method_3_code
def yX5_hasDoor : MethodName := ⟨RX5, "hasDoor", "(I)Z"⟩
abbrev cX5_hasExaminer : ByteArray := prog_7_method_4_code
def yX5_hasExaminer : MethodName := ⟨RX5, "hasExaminer", "(I)Z"⟩
abbrev cX5_hasPair : ByteArray := prog_7_method_5_code
def yX5_hasPair : MethodName := ⟨RX5, "hasPair", "(II)Z"⟩
abbrev cX5_hasEntry : ByteArray := prog_7_method_6_code
def yX5_hasEntry : MethodName := ⟨RX5, "hasEntry", "(I)Z"⟩
abbrev cX5_neutral : ByteArray := prog_7_method_7_code
def yX5_neutral : MethodName := ⟨RX5, "neutral", "(II)Z"⟩
abbrev cX5_canJudge : ByteArray := prog_7_method_8_code
def yX5_canJudge : MethodName := ⟨RX5, "canJudge", "(II)Z"⟩
abbrev cX5_assigned : ByteArray := prog_7_method_9_code
def yX5_assigned : MethodName := ⟨RX5, "assigned", "(II)Z"⟩
abbrev cX5_loadOf : ByteArray := prog_7_method_10_code
def yX5_loadOf : MethodName := ⟨RX5, "loadOf", "(I)I"⟩
abbrev cX5_freeCapacity : ByteArray := prog_7_method_11_code
def yX5_freeCapacity : MethodName := ⟨RX5, "freeCapacity", "(I)I"⟩
abbrev cX5_neutralCount : ByteArray := prog_7_method_12_code
def yX5_neutralCount : MethodName := ⟨RX5, "neutralCount", "(I)I"⟩
abbrev cX5_assignedCount : ByteArray := prog_7_method_13_code
def yX5_assignedCount : MethodName := ⟨RX5, "assignedCount", "(I)I"⟩
abbrev cX5_gradeCount : ByteArray := prog_7_method_14_code
def yX5_gradeCount : MethodName := ⟨RX5, "gradeCount", "(I)I"⟩
abbrev cX5_gradeSum : ByteArray := prog_7_method_15_code
def yX5_gradeSum : MethodName := ⟨RX5, "gradeSum", "(I)I"⟩
abbrev cX5_median : ByteArray := prog_7_method_16_code
def yX5_median : MethodName := ⟨RX5, "median", "(I)I"⟩
abbrev cX5_hasPassed : ByteArray := prog_7_method_17_code
def yX5_hasPassed : MethodName := ⟨RX5, "hasPassed", "(I)Z"⟩
abbrev cX5_deservesDegree : ByteArray := prog_7_method_18_code
def yX5_deservesDegree : MethodName := ⟨RX5, "deservesDegree", "(I)Z"⟩
abbrev cX5_entryOf : ByteArray := prog_7_method_19_code
def yX5_entryOf : MethodName := ⟨RX5, "entryOf", "(I)I"⟩
abbrev cX5_holdsDegree : ByteArray := prog_7_method_20_code
def yX5_holdsDegree : MethodName := ⟨RX5, "holdsDegree", "(I)Z"⟩
abbrev cX5_doorRanked : ByteArray := prog_7_method_21_code
def yX5_doorRanked : MethodName := ⟨RX5, "doorRanked", "(I)I"⟩
abbrev cX5_rankOf : ByteArray := prog_7_method_22_code
def yX5_rankOf : MethodName := ⟨RX5, "rankOf", "(I)I"⟩
abbrev cX5_ranksBefore : ByteArray := prog_7_method_23_code
def yX5_ranksBefore : MethodName := ⟨RX5, "ranksBefore", "(II)Z"⟩
abbrev cX5_tryNewDoor : ByteArray := prog_7_method_24_code
def yX5_tryNewDoor : MethodName := ⟨RX5, "tryNewDoor", "(CI)I"⟩
abbrev cX5_tryNewExaminer : ByteArray := prog_7_method_25_code
def yX5_tryNewExaminer : MethodName := ⟨RX5, "tryNewExaminer", "(CIII)I"⟩
abbrev cX5_tryConflict : ByteArray := prog_7_method_26_code
def yX5_tryConflict : MethodName := ⟨RX5, "tryConflict", "(II)I"⟩
abbrev cX5_tryAssignment : ByteArray := prog_7_method_27_code
def yX5_tryAssignment : MethodName := ⟨RX5, "tryAssignment", "(II)I"⟩
abbrev cX5_putPlan : ByteArray := prog_7_method_28_code
def yX5_putPlan : MethodName := ⟨RX5, "putPlan", "([I)I"⟩
abbrev cX5_tryGrade : ByteArray := prog_7_method_29_code
def yX5_tryGrade : MethodName := ⟨RX5, "tryGrade", "(III)I"⟩
abbrev cX5_tryThreshold : ByteArray := prog_7_method_30_code
def yX5_tryThreshold : MethodName := ⟨RX5, "tryThreshold", "(I)I"⟩
abbrev cX5_tryAward : ByteArray := prog_7_method_31_code
def yX5_tryAward : MethodName := ⟨RX5, "tryAward", "(I)I"⟩
abbrev cX5_tryRevocation : ByteArray := prog_7_method_32_code
def yX5_tryRevocation : MethodName := ⟨RX5, "tryRevocation", "(I)I"⟩
def RX6 : String := "DoorAcademy"
def TX6 : u_T := fun k => match k with
  | 0 => ("DoorAcademy", "present", "LDoorAcademy$State;", true)
  | 1 => ("DoorAcademy", "saved", "LDoorAcademy$State;", true)
  | 2 => ("DoorAcademy", "hasSaved", "Z", false)
  | 3 => ("DoorAcademy", "history", "LDoorAcademy$History;", true)
  | 4 => ("DoorAcademy", "planner", "LDoorAcademy$Planner;", true)
  | 5 => ("DoorAcademy", "panels", "LDoorAcademy$Panels;", true)
  | 6 => ("DoorAcademy", "program", "LDoorAcademy$Program;", true)
  | 7 => ("DoorAcademy", "line", "LDoorAcademy$Line;", true)
  | 8 => ("DoorAcademy", "storedErrorPosition", "I", false)
  | _ => ("DoorAcademy", "storedFailedCommand", "I", false)
def tyX6 : Nat → FieldType := fun k => match k with
  | 0 => .object "DoorAcademy$State"
  | 1 => .object "DoorAcademy$State"
  | 2 => .boolean
  | 3 => .object "DoorAcademy$History"
  | 4 => .object "DoorAcademy$Planner"
  | 5 => .object "DoorAcademy$Panels"
  | 6 => .object "DoorAcademy$Program"
  | 7 => .object "DoorAcademy$Line"
  | 8 => .int
  | _ => .int
abbrev wsX60 : List Cond := u_ws RX6 TX6 10
theorem nmX6 : ∀ a, a < 10 → ∀ b, b < 10 → a ≠ b → (TX6 a).2.1 ≠ (TX6 b).2.1 := by decide +kernel
theorem tyX6_ok : ∀ k, k < 10 → parseFieldDescriptor (TX6 k).2.2.1 = some (tyX6 k) := by decide +kernel
abbrev cX6_init : ByteArray := prog_1_method_1_code
def yX6_init : MethodName := ⟨RX6, "<init>", "()V"⟩
abbrev cX6_addDoor : ByteArray := prog_1_method_2_code
def yX6_addDoor : MethodName := ⟨RX6, "addDoor", "(CI)I"⟩
abbrev cX6_addExaminer : ByteArray := prog_1_method_3_code
def yX6_addExaminer : MethodName := ⟨RX6, "addExaminer", "(CIII)I"⟩
abbrev cX6_declareConflict : ByteArray := prog_1_method_4_code
def yX6_declareConflict : MethodName := ⟨RX6, "declareConflict", "(II)I"⟩
abbrev cX6_assign : ByteArray := prog_1_method_5_code
def yX6_assign : MethodName := ⟨RX6, "assign", "(II)I"⟩
abbrev cX6_carryOutPlan : ByteArray := prog_1_method_6_code
def yX6_carryOutPlan : MethodName := ⟨RX6, "carryOutPlan", "()I"⟩
abbrev cX6_grade : ByteArray := prog_1_method_7_code
def yX6_grade : MethodName := ⟨RX6, "grade", "(III)I"⟩
abbrev cX6_setThreshold : ByteArray := prog_1_method_8_code
def yX6_setThreshold : MethodName := ⟨RX6, "setThreshold", "(I)I"⟩
abbrev cX6_appeal : ByteArray := prog_1_method_9_code
def yX6_appeal : MethodName := ⟨RX6, "appeal", "(I)I"⟩
abbrev cX6_award : ByteArray := prog_1_method_10_code
def yX6_award : MethodName := ⟨RX6, "award", "(I)I"⟩
abbrev cX6_revoke : ByteArray := prog_1_method_11_code
def yX6_revoke : MethodName := ⟨RX6, "revoke", "(I)I"⟩
abbrev cX6_doorCount : ByteArray := prog_1_method_12_code
def yX6_doorCount : MethodName := ⟨RX6, "doorCount", "()I"⟩
abbrev cX6_frameOfDoor : ByteArray := prog_1_method_13_code
def yX6_frameOfDoor : MethodName := ⟨RX6, "frameOfDoor", "(I)C"⟩
abbrev cX6_topic : ByteArray := prog_1_method_14_code
def yX6_topic : MethodName := ⟨RX6, "topic", "(I)I"⟩
abbrev cX6_examinersOf : ByteArray := prog_1_method_15_code
def yX6_examinersOf : MethodName := ⟨RX6, "examinersOf", "(I)I"⟩
abbrev cX6_gradesOf : ByteArray := prog_1_method_16_code
def yX6_gradesOf : MethodName := ⟨RX6, "gradesOf", "(I)I"⟩
abbrev cX6_result : ByteArray := prog_1_method_17_code
def yX6_result : MethodName := ⟨RX6, "result", "(I)I"⟩
abbrev cX6_passes : ByteArray := prog_1_method_18_code
def yX6_passes : MethodName := ⟨RX6, "passes", "(I)Z"⟩
abbrev cX6_wasGranted : ByteArray := prog_1_method_19_code
def yX6_wasGranted : MethodName := ⟨RX6, "wasGranted", "(I)Z"⟩
abbrev cX6_isEntitled : ByteArray := prog_1_method_20_code
def yX6_isEntitled : MethodName := ⟨RX6, "isEntitled", "(I)Z"⟩
abbrev cX6_doorAtRank : ByteArray := prog_1_method_21_code
def yX6_doorAtRank : MethodName := ⟨RX6, "doorAtRank", "(I)I"⟩
abbrev cX6_examinerCount : ByteArray := prog_1_method_22_code
def yX6_examinerCount : MethodName := ⟨RX6, "examinerCount", "()I"⟩
abbrev cX6_frameOfExaminer : ByteArray := prog_1_method_23_code
def yX6_frameOfExaminer : MethodName := ⟨RX6, "frameOfExaminer", "(I)C"⟩
abbrev cX6_load : ByteArray := prog_1_method_24_code
def yX6_load : MethodName := ⟨RX6, "load", "(I)I"⟩
abbrev cX6_isNeutral : ByteArray := prog_1_method_25_code
def yX6_isNeutral : MethodName := ⟨RX6, "isNeutral", "(II)Z"⟩
abbrev cX6_mayJudge : ByteArray := prog_1_method_26_code
def yX6_mayJudge : MethodName := ⟨RX6, "mayJudge", "(II)Z"⟩
abbrev cX6_isAssigned : ByteArray := prog_1_method_27_code
def yX6_isAssigned : MethodName := ⟨RX6, "isAssigned", "(II)Z"⟩
abbrev cX6_gradeBy : ByteArray := prog_1_method_28_code
def yX6_gradeBy : MethodName := ⟨RX6, "gradeBy", "(II)I"⟩
abbrev cX6_planSize : ByteArray := prog_1_method_29_code
def yX6_planSize : MethodName := ⟨RX6, "planSize", "()I"⟩
abbrev cX6_planSizeBySets : ByteArray := prog_1_method_30_code
def yX6_planSizeBySets : MethodName := ⟨RX6, "planSizeBySets", "()I"⟩
abbrev cX6_plannedExaminer : ByteArray := prog_1_method_31_code
def yX6_plannedExaminer : MethodName := ⟨RX6, "plannedExaminer", "(I)I"⟩
abbrev cX6_panelCount : ByteArray := prog_1_method_32_code
def yX6_panelCount : MethodName := ⟨RX6, "panelCount", "(I)I"⟩
abbrev cX6_panelCountByFrames : ByteArray := prog_1_method_33_code
def yX6_panelCountByFrames : MethodName := ⟨RX6, "panelCountByFrames", "(I)I"⟩
abbrev cX6_panelMember : ByteArray := prog_1_method_34_code
def yX6_panelMember : MethodName := ⟨RX6, "panelMember", "(II)I"⟩
abbrev cX6_threshold : ByteArray := prog_1_method_35_code
def yX6_threshold : MethodName := ⟨RX6, "threshold", "()I"⟩
abbrev cX6_entryCount : ByteArray := prog_1_method_36_code
def yX6_entryCount : MethodName := ⟨RX6, "entryCount", "()I"⟩
abbrev cX6_doorOf : ByteArray := prog_1_method_37_code
def yX6_doorOf : MethodName := ⟨RX6, "doorOf", "(I)I"⟩
abbrev cX6_isRevoked : ByteArray := prog_1_method_38_code
def yX6_isRevoked : MethodName := ⟨RX6, "isRevoked", "(I)Z"⟩
abbrev cX6_assignments : ByteArray := prog_1_method_39_code
def yX6_assignments : MethodName := ⟨RX6, "assignments", "()I"⟩
abbrev cX6_assignmentsByDoors : ByteArray := prog_1_method_40_code
def yX6_assignmentsByDoors : MethodName := ⟨RX6, "assignmentsByDoors", "()I"⟩
abbrev cX6_gradeTotal : ByteArray := prog_1_method_41_code
def yX6_gradeTotal : MethodName := ⟨RX6, "gradeTotal", "()J"⟩
abbrev cX6_meanGrade : ByteArray := prog_1_method_42_code
def yX6_meanGrade : MethodName := ⟨RX6, "meanGrade", "()D"⟩
abbrev cX6_passShare : ByteArray := prog_1_method_43_code
def yX6_passShare : MethodName := ⟨RX6, "passShare", "()F"⟩
abbrev cX6_isConsistent : ByteArray := prog_1_method_44_code
def yX6_isConsistent : MethodName := ⟨RX6, "isConsistent", "()Z"⟩
abbrev cX6_append : ByteArray := prog_1_method_45_code
def yX6_append : MethodName := ⟨RX6, "append", "(C)I"⟩
abbrev cX6_run : ByteArray := prog_1_method_46_code
def yX6_run : MethodName := ⟨RX6, "run", "()I"⟩
abbrev cX6_writeDoor : ByteArray := prog_1_method_49_code
def yX6_writeDoor : MethodName := ⟨RX6, "writeDoor", "(I)I"⟩
abbrev cX6_writeExaminer : ByteArray := prog_1_method_50_code
def yX6_writeExaminer : MethodName := ⟨RX6, "writeExaminer", "(I)I"⟩
abbrev cX6_outputAt : ByteArray := prog_1_method_51_code
def yX6_outputAt : MethodName := ⟨RX6, "outputAt", "(I)C"⟩
abbrev cX6_undo : ByteArray := prog_1_method_52_code
def yX6_undo : MethodName := ⟨RX6, "undo", "()I"⟩
abbrev cX6_conclude : ByteArray := prog_1_method_55_code
def yX6_conclude : MethodName := ⟨RX6, "conclude", "(I)I"⟩
abbrev cX6_refuse : ByteArray := prog_1_method_56_code
def yX6_refuse : MethodName := ⟨RX6, "refuse", "(I)V"⟩
abbrev cX6_requireDoor : ByteArray := prog_1_method_57_code
def yX6_requireDoor : MethodName := ⟨RX6, "requireDoor", "(I)V"⟩
abbrev cX6_requireExaminer : ByteArray := prog_1_method_58_code
def yX6_requireExaminer : MethodName := ⟨RX6, "requireExaminer", "(I)V"⟩
abbrev cX6_requirePair : ByteArray := prog_1_method_59_code
def yX6_requirePair : MethodName := ⟨RX6, "requirePair", "(II)V"⟩
abbrev cX6_requireEntry : ByteArray := prog_1_method_60_code
def yX6_requireEntry : MethodName := ⟨RX6, "requireEntry", "(I)V"⟩
abbrev cX6_requireThere : ByteArray := prog_1_method_61_code
def yX6_requireThere : MethodName := ⟨RX6, "requireThere", "(I)I"⟩
abbrev cX6_panelCountsAgree : ByteArray := prog_1_method_62_code
def yX6_panelCountsAgree : MethodName := ⟨RX6, "panelCountsAgree", "()Z"⟩
abbrev cX6_framesDiffer : ByteArray := prog_1_method_63_code
def yX6_framesDiffer : MethodName := ⟨RX6, "framesDiffer", "()Z"⟩
abbrev cX6_perform : ByteArray := prog_1_method_64_code
def yX6_perform : MethodName := ⟨RX6, "perform", "(I[I)I"⟩
abbrev cX6_isFrame : ByteArray := prog_1_method_65_code
def yX6_isFrame : MethodName := ⟨RX6, "isFrame", "(C)Z"⟩
abbrev cX6_contains : ByteArray := prog_1_method_66_code
def yX6_contains : MethodName := ⟨RX6, "contains", "(II)Z"⟩
abbrev cX6_memberAt : ByteArray := prog_1_method_67_code
def yX6_memberAt : MethodName := ⟨RX6, "memberAt", "(II)I"⟩
def RX7 : String := "DoorAcademyModel"
def TX7 : u_T := fun k => match k with
  | _ => ("", "", "", false)
def tyX7 : Nat → FieldType := fun k => match k with
  | _ => .int
abbrev wsX70 : List Cond := u_ws RX7 TX7 0
theorem nmX7 : ∀ a, a < 0 → ∀ b, b < 0 → a ≠ b → (TX7 a).2.1 ≠ (TX7 b).2.1 := by decide +kernel
theorem tyX7_ok : ∀ k, k < 0 → parseFieldDescriptor (TX7 k).2.2.1 = some (tyX7 k) := by decide +kernel
def RJx145de : String := "java/io/Serializable"
def TJx145de : u_T := fun k => match k with
  | _ => ("", "", "", false)
def tyJx145de : Nat → FieldType := fun k => match k with
  | _ => .int
abbrev wsJx145de0 : List Cond := u_ws RJx145de TJx145de 0
theorem nmJx145de : ∀ a, a < 0 → ∀ b, b < 0 → a ≠ b → (TJx145de a).2.1 ≠ (TJx145de b).2.1 := by decide +kernel
theorem tyJx145de_ok : ∀ k, k < 0 → parseFieldDescriptor (TJx145de k).2.2.1 = some (tyJx145de k) := by decide +kernel
def RJ5 : String := "java/lang/AbstractStringBuilder"
def TJ5 : u_T := fun k => match k with
  | _ => ("", "", "", false)
def tyJ5 : Nat → FieldType := fun k => match k with
  | _ => .int
abbrev wsJ50 : List Cond := u_ws RJ5 TJ5 0
theorem nmJ5 : ∀ a, a < 0 → ∀ b, b < 0 → a ≠ b → (TJ5 a).2.1 ≠ (TJ5 b).2.1 := by decide +kernel
theorem tyJ5_ok : ∀ k, k < 0 → parseFieldDescriptor (TJ5 k).2.2.1 = some (tyJ5 k) := by decide +kernel
abbrev cJ5_init_d00df : ByteArray := prog_11_method_2_code
def yJ5_init_d00df : MethodName := ⟨RJ5, "<init>", "(I)V"⟩
abbrev cJ5_length_8abf5 : ByteArray := prog_11_method_6_code
def yJ5_length_8abf5 : MethodName := ⟨RJ5, "length", "()I"⟩
abbrev cJ5_ensureCapacityInternal_d00df : ByteArray := prog_11_method_9_code
def yJ5_ensureCapacityInternal_d00df : MethodName := ⟨RJ5, "ensureCapacityInternal", "(I)V"⟩
abbrev cJ5_newCapacity_0f7a4 : ByteArray := prog_11_method_10_code
def yJ5_newCapacity_0f7a4 : MethodName := ⟨RJ5, "newCapacity", "(I)I"⟩
abbrev cJ5_inflate_da8c8 : ByteArray := prog_11_method_11_code
def yJ5_inflate_da8c8 : MethodName := ⟨RJ5, "inflate", "()V"⟩
abbrev cJ5_append_cf1ce : ByteArray := prog_11_method_22_code
def yJ5_append_cf1ce : MethodName := ⟨RJ5, "append", "(Ljava/lang/String;)Ljava/lang/AbstractStringBuilder;"⟩
abbrev cJ5_appendNull_278bc : ByteArray := prog_11_method_26_code
def yJ5_appendNull_278bc : MethodName := ⟨RJ5, "appendNull", "()Ljava/lang/AbstractStringBuilder;"⟩
abbrev cJ5_append_3fe6f : ByteArray := prog_11_method_31_code
def yJ5_append_3fe6f : MethodName := ⟨RJ5, "append", "(C)Ljava/lang/AbstractStringBuilder;"⟩
abbrev cJ5_append_c97b9 : ByteArray := prog_11_method_32_code
def yJ5_append_c97b9 : MethodName := ⟨RJ5, "append", "(I)Ljava/lang/AbstractStringBuilder;"⟩
abbrev cJ5_getValue_6d5f1 : ByteArray := prog_11_method_64_code
def yJ5_getValue_6d5f1 : MethodName := ⟨RJ5, "getValue", "()[B"⟩
abbrev cJ5_isLatin1_aae02 : ByteArray := prog_11_method_68_code
def yJ5_isLatin1_aae02 : MethodName := ⟨RJ5, "isLatin1", "()Z"⟩
abbrev cJ5_inflateIfNeededFor_a7421 : ByteArray := prog_11_method_71_code
def yJ5_inflateIfNeededFor_a7421 : MethodName := ⟨RJ5, "inflateIfNeededFor", "(Ljava/lang/String;)V"⟩
abbrev cJ5_putStringAt_47b60 : ByteArray := prog_11_method_73_code
def yJ5_putStringAt_47b60 : MethodName := ⟨RJ5, "putStringAt", "(ILjava/lang/String;)V"⟩
def RJx2cfe8 : String := "java/lang/Appendable"
def TJx2cfe8 : u_T := fun k => match k with
  | _ => ("", "", "", false)
def tyJx2cfe8 : Nat → FieldType := fun k => match k with
  | _ => .int
abbrev wsJx2cfe80 : List Cond := u_ws RJx2cfe8 TJx2cfe8 0
theorem nmJx2cfe8 : ∀ a, a < 0 → ∀ b, b < 0 → a ≠ b → (TJx2cfe8 a).2.1 ≠ (TJx2cfe8 b).2.1 := by decide +kernel
theorem tyJx2cfe8_ok : ∀ k, k < 0 → parseFieldDescriptor (TJx2cfe8 k).2.2.1 = some (tyJx2cfe8 k) := by decide +kernel
def RJx00060 : String := "java/lang/ArrayIndexOutOfBoundsException"
def TJx00060 : u_T := fun k => match k with
  | 0 => ("java/lang/Throwable", "backtrace", "Ljava/lang/Object;", false)
  | 1 => ("java/lang/Throwable", "detailMessage", "Ljava/lang/String;", false)
  | 2 => ("java/lang/Throwable", "cause", "Ljava/lang/Throwable;", false)
  | 3 => ("java/lang/Throwable", "stackTrace", "[Ljava/lang/StackTraceElement;", false)
  | 4 => ("java/lang/Throwable", "depth", "I", false)
  | _ => ("java/lang/Throwable", "suppressedExceptions", "Ljava/util/List;", false)
def tyJx00060 : Nat → FieldType := fun k => match k with
  | 0 => .object "java/lang/Object"
  | 1 => .object "java/lang/String"
  | 2 => .object "java/lang/Throwable"
  | 3 => .array (.object "java/lang/StackTraceElement")
  | 4 => .int
  | _ => .object "java/util/List"
abbrev wsJx000600 : List Cond := u_ws RJx00060 TJx00060 6
theorem nmJx00060 : ∀ a, a < 6 → ∀ b, b < 6 → a ≠ b → (TJx00060 a).2.1 ≠ (TJx00060 b).2.1 := by decide +kernel
theorem tyJx00060_ok : ∀ k, k < 6 → parseFieldDescriptor (TJx00060 k).2.2.1 = some (tyJx00060 k) := by decide +kernel
abbrev cJx00060_init_a7421 : ByteArray := prog_14_method_2_code
def yJx00060_init_a7421 : MethodName := ⟨RJx00060, "<init>", "(Ljava/lang/String;)V"⟩
def RJx9f9b0 : String := "java/lang/CharSequence"
def TJx9f9b0 : u_T := fun k => match k with
  | _ => ("", "", "", false)
def tyJx9f9b0 : Nat → FieldType := fun k => match k with
  | _ => .int
abbrev wsJx9f9b00 : List Cond := u_ws RJx9f9b0 TJx9f9b0 0
theorem nmJx9f9b0 : ∀ a, a < 0 → ∀ b, b < 0 → a ≠ b → (TJx9f9b0 a).2.1 ≠ (TJx9f9b0 b).2.1 := by decide +kernel
theorem tyJx9f9b0_ok : ∀ k, k < 0 → parseFieldDescriptor (TJx9f9b0 k).2.2.1 = some (tyJx9f9b0 k) := by decide +kernel
def RJx8e188 : String := "java/lang/Cloneable"
def TJx8e188 : u_T := fun k => match k with
  | _ => ("", "", "", false)
def tyJx8e188 : Nat → FieldType := fun k => match k with
  | _ => .int
abbrev wsJx8e1880 : List Cond := u_ws RJx8e188 TJx8e188 0
theorem nmJx8e188 : ∀ a, a < 0 → ∀ b, b < 0 → a ≠ b → (TJx8e188 a).2.1 ≠ (TJx8e188 b).2.1 := by decide +kernel
theorem tyJx8e188_ok : ∀ k, k < 0 → parseFieldDescriptor (TJx8e188 k).2.2.1 = some (tyJx8e188 k) := by decide +kernel
def RJxb160c : String := "java/lang/Comparable"
def TJxb160c : u_T := fun k => match k with
  | _ => ("", "", "", false)
def tyJxb160c : Nat → FieldType := fun k => match k with
  | _ => .int
abbrev wsJxb160c0 : List Cond := u_ws RJxb160c TJxb160c 0
theorem nmJxb160c : ∀ a, a < 0 → ∀ b, b < 0 → a ≠ b → (TJxb160c a).2.1 ≠ (TJxb160c b).2.1 := by decide +kernel
theorem tyJxb160c_ok : ∀ k, k < 0 → parseFieldDescriptor (TJxb160c k).2.2.1 = some (tyJxb160c k) := by decide +kernel
def RJ6 : String := "java/lang/Integer"
def TJ6 : u_T := fun k => match k with
  | _ => ("", "", "", false)
def tyJ6 : Nat → FieldType := fun k => match k with
  | _ => .int
abbrev wsJ60 : List Cond := u_ws RJ6 TJ6 0
theorem nmJ6 : ∀ a, a < 0 → ∀ b, b < 0 → a ≠ b → (TJ6 a).2.1 ≠ (TJ6 b).2.1 := by decide +kernel
theorem tyJ6_ok : ∀ k, k < 0 → parseFieldDescriptor (TJ6 k).2.2.1 = some (tyJ6 k) := by decide +kernel
abbrev cJ6_getChars_ba4f3 : ByteArray := prog_22_method_12_code
def yJ6_getChars_ba4f3 : MethodName := ⟨RJ6, "getChars", "(II[B)I"⟩
abbrev cJ6_stringSize_0f7a4 : ByteArray := prog_22_method_13_code
def yJ6_stringSize_0f7a4 : MethodName := ⟨RJ6, "stringSize", "(I)I"⟩
abbrev cJ6_bitCount_0f7a4 : ByteArray := prog_22_method_49_code
def yJ6_bitCount_0f7a4 : MethodName := ⟨RJ6, "bitCount", "(I)I"⟩
def RJ9 : String := "java/lang/Math"
def TJ9 : u_T := fun k => match k with
  | _ => ("", "", "", false)
def tyJ9 : Nat → FieldType := fun k => match k with
  | _ => .int
abbrev wsJ90 : List Cond := u_ws RJ9 TJ9 0
theorem nmJ9 : ∀ a, a < 0 → ∀ b, b < 0 → a ≠ b → (TJ9 a).2.1 ≠ (TJ9 b).2.1 := by decide +kernel
theorem tyJ9_ok : ∀ k, k < 0 → parseFieldDescriptor (TJ9 k).2.2.1 = some (tyJ9 k) := by decide +kernel
abbrev cJ9_max_7cf53 : ByteArray := prog_23_method_65_code
def yJ9_max_7cf53 : MethodName := ⟨RJ9, "max", "(II)I"⟩
abbrev cJ9_min_7cf53 : ByteArray := prog_23_method_69_code
def yJ9_min_7cf53 : MethodName := ⟨RJ9, "min", "(II)I"⟩
def RJxd2413 : String := "java/lang/Number"
def TJxd2413 : u_T := fun k => match k with
  | _ => ("", "", "", false)
def tyJxd2413 : Nat → FieldType := fun k => match k with
  | _ => .int
abbrev wsJxd24130 : List Cond := u_ws RJxd2413 TJxd2413 0
theorem nmJxd2413 : ∀ a, a < 0 → ∀ b, b < 0 → a ≠ b → (TJxd2413 a).2.1 ≠ (TJxd2413 b).2.1 := by decide +kernel
theorem tyJxd2413_ok : ∀ k, k < 0 → parseFieldDescriptor (TJxd2413 k).2.2.1 = some (tyJxd2413 k) := by decide +kernel
def RJ0 : String := "java/lang/String"
def TJ0 : u_T := fun k => match k with
  | 0 => ("java/lang/String", "value", "[B", true)
  | 1 => ("java/lang/String", "coder", "B", true)
  | 2 => ("java/lang/String", "hash", "I", false)
  | _ => ("java/lang/String", "hashIsZero", "Z", false)
def tyJ0 : Nat → FieldType := fun k => match k with
  | 0 => .array .byte
  | 1 => .byte
  | 2 => .int
  | _ => .boolean
abbrev wsJ00 : List Cond := u_ws RJ0 TJ0 4
theorem nmJ0 : ∀ a, a < 4 → ∀ b, b < 4 → a ≠ b → (TJ0 a).2.1 ≠ (TJ0 b).2.1 := by decide +kernel
theorem tyJ0_ok : ∀ k, k < 4 → parseFieldDescriptor (TJ0 k).2.2.1 = some (tyJ0 k) := by decide +kernel
abbrev cJ0_init_81219 : ByteArray := prog_26_method_53_code
def yJ0_init_81219 : MethodName := ⟨RJ0, "<init>", "(Ljava/lang/StringBuilder;)V"⟩
abbrev cJ0_length_8abf5 : ByteArray := prog_26_method_54_code
def yJ0_length_8abf5 : MethodName := ⟨RJ0, "length", "()I"⟩
abbrev cJ0_charAt_5068e : ByteArray := prog_26_method_56_code
def yJ0_charAt_5068e : MethodName := ⟨RJ0, "charAt", "(I)C"⟩
abbrev cJ0_getBytes_840e7 : ByteArray := prog_26_method_147_code
def yJ0_getBytes_840e7 : MethodName := ⟨RJ0, "getBytes", "([BIB)V"⟩
abbrev cJ0_init_db425 : ByteArray := prog_26_method_150_code
def yJ0_init_db425 : MethodName := ⟨RJ0, "<init>", "(Ljava/lang/AbstractStringBuilder;Ljava/lang/Void;)V"⟩
abbrev cJ0_coder_7d493 : ByteArray := prog_26_method_152_code
def yJ0_coder_7d493 : MethodName := ⟨RJ0, "coder", "()B"⟩
abbrev cJ0_isLatin1_aae02 : ByteArray := prog_26_method_154_code
def yJ0_isLatin1_aae02 : MethodName := ⟨RJ0, "isLatin1", "()Z"⟩
abbrev cJ0_checkIndex_df160 : ByteArray := prog_26_method_155_code
def yJ0_checkIndex_df160 : MethodName := ⟨RJ0, "checkIndex", "(II)V"⟩
abbrev cJ0_checkBoundsOffCount_cabcc : ByteArray := prog_26_method_157_code
def yJ0_checkBoundsOffCount_cabcc : MethodName := ⟨RJ0, "checkBoundsOffCount", "(III)I"⟩
abbrev cJ0_checkBoundsBeginEnd_23922 : ByteArray := prog_26_method_158_code
def yJ0_checkBoundsBeginEnd_23922 : MethodName := ⟨RJ0, "checkBoundsBeginEnd", "(III)V"⟩
def RJ4 : String := "java/lang/StringBuilder"
def TJ4 : u_T := fun k => match k with
  | 0 => ("java/lang/AbstractStringBuilder", "value", "[B", false)
  | 1 => ("java/lang/AbstractStringBuilder", "coder", "B", false)
  | 2 => ("java/lang/AbstractStringBuilder", "maybeLatin1", "Z", false)
  | _ => ("java/lang/AbstractStringBuilder", "count", "I", false)
def tyJ4 : Nat → FieldType := fun k => match k with
  | 0 => .array .byte
  | 1 => .byte
  | 2 => .boolean
  | _ => .int
abbrev wsJ40 : List Cond := u_ws RJ4 TJ4 4
theorem nmJ4 : ∀ a, a < 4 → ∀ b, b < 4 → a ≠ b → (TJ4 a).2.1 ≠ (TJ4 b).2.1 := by decide +kernel
theorem tyJ4_ok : ∀ k, k < 4 → parseFieldDescriptor (TJ4 k).2.2.1 = some (tyJ4 k) := by decide +kernel
abbrev cJ4_init_da8c8 : ByteArray := prog_27_method_1_code
def yJ4_init_da8c8 : MethodName := ⟨RJ4, "<init>", "()V"⟩
abbrev cJ4_append_15ec4 : ByteArray := prog_27_method_7_code
def yJ4_append_15ec4 : MethodName := ⟨RJ4, "append", "(Ljava/lang/String;)Ljava/lang/StringBuilder;"⟩
abbrev cJ4_append_cf468 : ByteArray := prog_27_method_14_code
def yJ4_append_cf468 : MethodName := ⟨RJ4, "append", "(C)Ljava/lang/StringBuilder;"⟩
abbrev cJ4_append_bf812 : ByteArray := prog_27_method_15_code
def yJ4_append_bf812 : MethodName := ⟨RJ4, "append", "(I)Ljava/lang/StringBuilder;"⟩
abbrev cJ4_toString_0e30d : ByteArray := prog_27_method_42_code
def yJ4_toString_0e30d : MethodName := ⟨RJ4, "toString", "()Ljava/lang/String;"⟩
abbrev cJ4_length_8abf5 : ByteArray := prog_27_method_93_code
def yJ4_length_8abf5 : MethodName := ⟨RJ4, "length", "()I"⟩
def RJ1 : String := "java/lang/StringLatin1"
def TJ1 : u_T := fun k => match k with
  | _ => ("", "", "", false)
def tyJ1 : Nat → FieldType := fun k => match k with
  | _ => .int
abbrev wsJ10 : List Cond := u_ws RJ1 TJ1 0
theorem nmJ1 : ∀ a, a < 0 → ∀ b, b < 0 → a ≠ b → (TJ1 a).2.1 ≠ (TJ1 b).2.1 := by decide +kernel
theorem tyJ1_ok : ∀ k, k < 0 → parseFieldDescriptor (TJ1 k).2.2.1 = some (tyJ1 k) := by decide +kernel
abbrev cJ1_charAt_3b067 : ByteArray := prog_28_method_2_code
def yJ1_charAt_3b067 : MethodName := ⟨RJ1, "charAt", "([BI)C"⟩
abbrev cJ1_canEncode_fc78d : ByteArray := prog_28_method_3_code
def yJ1_canEncode_fc78d : MethodName := ⟨RJ1, "canEncode", "(C)Z"⟩
abbrev cJ1_inflate_0e8fd : ByteArray := prog_28_method_50_code
def yJ1_inflate_0e8fd : MethodName := ⟨RJ1, "inflate", "([BI[BII)V"⟩
def RJ2 : String := "java/lang/StringUTF16"
def TJ2 : u_T := fun k => match k with
  | _ => ("", "", "", false)
def tyJ2 : Nat → FieldType := fun k => match k with
  | _ => .int
abbrev wsJ20 : List Cond := u_ws RJ2 TJ2 0
theorem nmJ2 : ∀ a, a < 0 → ∀ b, b < 0 → a ≠ b → (TJ2 a).2.1 ≠ (TJ2 b).2.1 := by decide +kernel
theorem tyJ2_ok : ∀ k, k < 0 → parseFieldDescriptor (TJ2 k).2.2.1 = some (tyJ2 k) := by decide +kernel
abbrev cJ2_newBytesFor_77867 : ByteArray := prog_29_method_2_code
def yJ2_newBytesFor_77867 : MethodName := ⟨RJ2, "newBytesFor", "(I)[B"⟩
abbrev cJ2_newBytesLength_0f7a4 : ByteArray := prog_29_method_3_code
def yJ2_newBytesLength_0f7a4 : MethodName := ⟨RJ2, "newBytesLength", "(I)I"⟩
abbrev cJ2_putChar_b72d1 : ByteArray := prog_29_method_4_code
def yJ2_putChar_b72d1 : MethodName := ⟨RJ2, "putChar", "([BII)V"⟩
abbrev cJ2_getChar_3b067 : ByteArray := prog_29_method_5_code
def yJ2_getChar_3b067 : MethodName := ⟨RJ2, "getChar", "([BI)C"⟩
abbrev cJ2_length_9d52b : ByteArray := prog_29_method_6_code
def yJ2_length_9d52b : MethodName := ⟨RJ2, "length", "([B)I"⟩
abbrev cJ2_coderFromArrayLen_85cad : ByteArray := prog_29_method_15_code
def yJ2_coderFromArrayLen_85cad : MethodName := ⟨RJ2, "coderFromArrayLen", "([BI)B"⟩
abbrev cJ2_compress_39247 : ByteArray := prog_29_method_17_code
def yJ2_compress_39247 : MethodName := ⟨RJ2, "compress", "([BII)[B"⟩
abbrev cJ2_compress_5af95 : ByteArray := prog_29_method_22_code
def yJ2_compress_5af95 : MethodName := ⟨RJ2, "compress", "([BI[BII)I"⟩
abbrev cJ2_putCharSB_b72d1 : ByteArray := prog_29_method_71_code
def yJ2_putCharSB_b72d1 : MethodName := ⟨RJ2, "putCharSB", "([BII)V"⟩
abbrev cJ2_getChars_46870 : ByteArray := prog_29_method_77_code
def yJ2_getChars_46870 : MethodName := ⟨RJ2, "getChars", "(III[B)I"⟩
abbrev cJ2_putCharsAt_cd4e5 : ByteArray := prog_29_method_81_code
def yJ2_putCharsAt_cd4e5 : MethodName := ⟨RJ2, "putCharsAt", "([BICCCC)I"⟩
abbrev cJ2_charAt_3b067 : ByteArray := prog_29_method_83_code
def yJ2_charAt_3b067 : MethodName := ⟨RJ2, "charAt", "([BI)C"⟩
abbrev cJ2_inflate_0e8fd : ByteArray := prog_29_method_86_code
def yJ2_inflate_0e8fd : MethodName := ⟨RJ2, "inflate", "([BI[BII)V"⟩
abbrev cJ2_getChars_ba4f3 : ByteArray := prog_29_method_89_code
def yJ2_getChars_ba4f3 : MethodName := ⟨RJ2, "getChars", "(II[B)I"⟩
abbrev cJ2_checkIndex_2214a : ByteArray := prog_29_method_91_code
def yJ2_checkIndex_2214a : MethodName := ⟨RJ2, "checkIndex", "(I[B)V"⟩
abbrev cJ2_checkBoundsBeginEnd_d044e : ByteArray := prog_29_method_93_code
def yJ2_checkBoundsBeginEnd_d044e : MethodName := ⟨RJ2, "checkBoundsBeginEnd", "(II[B)V"⟩
abbrev cJ2_checkBoundsOffCount_d044e : ByteArray := prog_29_method_94_code
def yJ2_checkBoundsOffCount_d044e : MethodName := ⟨RJ2, "checkBoundsOffCount", "(II[B)V"⟩
def RJ10 : String := "java/lang/System"
def TJ10 : u_T := fun k => match k with
  | _ => ("", "", "", false)
def tyJ10 : Nat → FieldType := fun k => match k with
  | _ => .int
abbrev wsJ100 : List Cond := u_ws RJ10 TJ10 0
theorem nmJ10 : ∀ a, a < 0 → ∀ b, b < 0 → a ≠ b → (TJ10 a).2.1 ≠ (TJ10 b).2.1 := by decide +kernel
theorem tyJ10_ok : ∀ k, k < 0 → parseFieldDescriptor (TJ10 k).2.2.1 = some (tyJ10 k) := by decide +kernel
def RJxfd54e : String := "java/lang/constant/Constable"
def TJxfd54e : u_T := fun k => match k with
  | _ => ("", "", "", false)
def tyJxfd54e : Nat → FieldType := fun k => match k with
  | _ => .int
abbrev wsJxfd54e0 : List Cond := u_ws RJxfd54e TJxfd54e 0
theorem nmJxfd54e : ∀ a, a < 0 → ∀ b, b < 0 → a ≠ b → (TJxfd54e a).2.1 ≠ (TJxfd54e b).2.1 := by decide +kernel
theorem tyJxfd54e_ok : ∀ k, k < 0 → parseFieldDescriptor (TJxfd54e k).2.2.1 = some (tyJxfd54e k) := by decide +kernel
def RJx3cf43 : String := "java/lang/constant/ConstantDesc"
def TJx3cf43 : u_T := fun k => match k with
  | _ => ("", "", "", false)
def tyJx3cf43 : Nat → FieldType := fun k => match k with
  | _ => .int
abbrev wsJx3cf430 : List Cond := u_ws RJx3cf43 TJx3cf43 0
theorem nmJx3cf43 : ∀ a, a < 0 → ∀ b, b < 0 → a ≠ b → (TJx3cf43 a).2.1 ≠ (TJx3cf43 b).2.1 := by decide +kernel
theorem tyJx3cf43_ok : ∀ k, k < 0 → parseFieldDescriptor (TJx3cf43 k).2.2.1 = some (tyJx3cf43 k) := by decide +kernel
def RJ7 : String := "java/util/Arrays"
def TJ7 : u_T := fun k => match k with
  | _ => ("", "", "", false)
def tyJ7 : Nat → FieldType := fun k => match k with
  | _ => .int
abbrev wsJ70 : List Cond := u_ws RJ7 TJ7 0
theorem nmJ7 : ∀ a, a < 0 → ∀ b, b < 0 → a ≠ b → (TJ7 a).2.1 ≠ (TJ7 b).2.1 := by decide +kernel
theorem tyJ7_ok : ∀ k, k < 0 → parseFieldDescriptor (TJ7 k).2.2.1 = some (tyJ7 k) := by decide +kernel
abbrev cJ7_copyOf_9075b : ByteArray := prog_35_method_121_code
def yJ7_copyOf_9075b : MethodName := ⟨RJ7, "copyOf", "([BI)[B"⟩
abbrev cJ7_checkLength_df160 : ByteArray := prog_35_method_131_code
def yJ7_checkLength_df160 : MethodName := ⟨RJ7, "checkLength", "(II)V"⟩
abbrev cJ7_copyOfRange_39247 : ByteArray := prog_35_method_132_code
def yJ7_copyOfRange_39247 : MethodName := ⟨RJ7, "copyOfRange", "([BII)[B"⟩
abbrev cJ7_copyOfRangeByte_39247 : ByteArray := prog_35_method_133_code
def yJ7_copyOfRangeByte_39247 : MethodName := ⟨RJ7, "copyOfRangeByte", "([BII)[B"⟩
def RJ8 : String := "jdk/internal/util/ArraysSupport"
def TJ8 : u_T := fun k => match k with
  | _ => ("", "", "", false)
def tyJ8 : Nat → FieldType := fun k => match k with
  | _ => .int
abbrev wsJ80 : List Cond := u_ws RJ8 TJ8 0
theorem nmJ8 : ∀ a, a < 0 → ∀ b, b < 0 → a ≠ b → (TJ8 a).2.1 ≠ (TJ8 b).2.1 := by decide +kernel
theorem tyJ8_ok : ∀ k, k < 0 → parseFieldDescriptor (TJ8 k).2.2.1 = some (tyJ8 k) := by decide +kernel
abbrev cJ8_newLength_cabcc : ByteArray := prog_37_method_27_code
def yJ8_newLength_cabcc : MethodName := ⟨RJ8, "newLength", "(III)I"⟩
abbrev cJ8_hugeLength_7cf53 : ByteArray := prog_37_method_28_code
def yJ8_hugeLength_7cf53 : MethodName := ⟨RJ8, "hugeLength", "(II)I"⟩
def RJ3 : String := "jdk/internal/util/Preconditions"
def TJ3 : u_T := fun k => match k with
  | _ => ("", "", "", false)
def tyJ3 : Nat → FieldType := fun k => match k with
  | _ => .int
abbrev wsJ30 : List Cond := u_ws RJ3 TJ3 0
theorem nmJ3 : ∀ a, a < 0 → ∀ b, b < 0 → a ≠ b → (TJ3 a).2.1 ≠ (TJ3 b).2.1 := by decide +kernel
theorem tyJ3_ok : ∀ k, k < 0 → parseFieldDescriptor (TJ3 k).2.2.1 = some (tyJ3 k) := by decide +kernel
abbrev cJ3_checkIndex_8e157 : ByteArray := prog_38_method_11_code
def yJ3_checkIndex_8e157 : MethodName := ⟨RJ3, "checkIndex", "(IILjava/util/function/BiFunction;)I"⟩
abbrev cJ3_checkFromToIndex_8c36e : ByteArray := prog_38_method_12_code
def yJ3_checkFromToIndex_8c36e : MethodName := ⟨RJ3, "checkFromToIndex", "(IIILjava/util/function/BiFunction;)I"⟩
abbrev cJ3_checkFromIndexSize_8c36e : ByteArray := prog_38_method_13_code
def yJ3_checkFromIndexSize_8c36e : MethodName := ⟨RJ3, "checkFromIndexSize", "(IIILjava/util/function/BiFunction;)I"⟩
def RL : String := "DoorAcademyLaw"
abbrev cL_cell : ByteArray := method_2_code
def yL_cell : MethodName := ⟨RL, "cell", "([II)I"⟩
abbrev cL_addDoor : ByteArray := method_3_code
def yL_addDoor : MethodName := ⟨RL, "addDoor", "(LDoorAcademy;CI)I"⟩
abbrev cL_addExaminer : ByteArray := method_4_code
def yL_addExaminer : MethodName := ⟨RL, "addExaminer", "(LDoorAcademy;CIII)I"⟩
abbrev cL_conflict : ByteArray := method_5_code
def yL_conflict : MethodName := ⟨RL, "conflict", "(LDoorAcademy;II)I"⟩
abbrev cL_assign : ByteArray := method_6_code
def yL_assign : MethodName := ⟨RL, "assign", "(LDoorAcademy;II)I"⟩
abbrev cL_grade : ByteArray := method_7_code
def yL_grade : MethodName := ⟨RL, "grade", "(LDoorAcademy;III)I"⟩
abbrev cL_setThreshold : ByteArray := method_8_code
def yL_setThreshold : MethodName := ⟨RL, "setThreshold", "(LDoorAcademy;I)I"⟩
abbrev cL_appeal : ByteArray := method_9_code
def yL_appeal : MethodName := ⟨RL, "appeal", "(LDoorAcademy;I)I"⟩
abbrev cL_award : ByteArray := method_10_code
def yL_award : MethodName := ⟨RL, "award", "(LDoorAcademy;I)I"⟩
abbrev cL_revoke : ByteArray := method_11_code
def yL_revoke : MethodName := ⟨RL, "revoke", "(LDoorAcademy;I)I"⟩
abbrev cL_frameOfDoor : ByteArray := method_12_code
def yL_frameOfDoor : MethodName := ⟨RL, "frameOfDoor", "(LDoorAcademy;I)I"⟩
abbrev cL_topic : ByteArray := method_13_code
def yL_topic : MethodName := ⟨RL, "topic", "(LDoorAcademy;I)I"⟩
abbrev cL_examinersOf : ByteArray := method_14_code
def yL_examinersOf : MethodName := ⟨RL, "examinersOf", "(LDoorAcademy;I)I"⟩
abbrev cL_gradesOf : ByteArray := method_15_code
def yL_gradesOf : MethodName := ⟨RL, "gradesOf", "(LDoorAcademy;I)I"⟩
abbrev cL_result : ByteArray := method_16_code
def yL_result : MethodName := ⟨RL, "result", "(LDoorAcademy;I)I"⟩
abbrev cL_passes : ByteArray := method_17_code
def yL_passes : MethodName := ⟨RL, "passes", "(LDoorAcademy;I)I"⟩
abbrev cL_wasGranted : ByteArray := method_18_code
def yL_wasGranted : MethodName := ⟨RL, "wasGranted", "(LDoorAcademy;I)I"⟩
abbrev cL_isEntitled : ByteArray := method_19_code
def yL_isEntitled : MethodName := ⟨RL, "isEntitled", "(LDoorAcademy;I)I"⟩
abbrev cL_doorAtRank : ByteArray := method_20_code
def yL_doorAtRank : MethodName := ⟨RL, "doorAtRank", "(LDoorAcademy;I)I"⟩
abbrev cL_frameOfExaminer : ByteArray := method_21_code
def yL_frameOfExaminer : MethodName := ⟨RL, "frameOfExaminer", "(LDoorAcademy;I)I"⟩
abbrev cL_load : ByteArray := method_22_code
def yL_load : MethodName := ⟨RL, "load", "(LDoorAcademy;I)I"⟩
abbrev cL_isNeutral : ByteArray := method_23_code
def yL_isNeutral : MethodName := ⟨RL, "isNeutral", "(LDoorAcademy;II)I"⟩
abbrev cL_mayJudge : ByteArray := method_24_code
def yL_mayJudge : MethodName := ⟨RL, "mayJudge", "(LDoorAcademy;II)I"⟩
abbrev cL_isAssigned : ByteArray := method_25_code
def yL_isAssigned : MethodName := ⟨RL, "isAssigned", "(LDoorAcademy;II)I"⟩
abbrev cL_gradeBy : ByteArray := method_26_code
def yL_gradeBy : MethodName := ⟨RL, "gradeBy", "(LDoorAcademy;II)I"⟩
abbrev cL_planned : ByteArray := method_27_code
def yL_planned : MethodName := ⟨RL, "planned", "(LDoorAcademy;I)I"⟩
abbrev cL_panels : ByteArray := method_28_code
def yL_panels : MethodName := ⟨RL, "panels", "(LDoorAcademy;I)I"⟩
abbrev cL_byFrames : ByteArray := method_29_code
def yL_byFrames : MethodName := ⟨RL, "byFrames", "(LDoorAcademy;I)I"⟩
abbrev cL_member : ByteArray := method_30_code
def yL_member : MethodName := ⟨RL, "member", "(LDoorAcademy;II)I"⟩
abbrev cL_doorOf : ByteArray := method_31_code
def yL_doorOf : MethodName := ⟨RL, "doorOf", "(LDoorAcademy;I)I"⟩
abbrev cL_isRevoked : ByteArray := method_32_code
def yL_isRevoked : MethodName := ⟨RL, "isRevoked", "(LDoorAcademy;I)I"⟩
abbrev cL_append : ByteArray := method_33_code
def yL_append : MethodName := ⟨RL, "append", "(LDoorAcademy;C)I"⟩
abbrev cL_runs : ByteArray := method_34_code
def yL_runs : MethodName := ⟨RL, "runs", "(LDoorAcademy;)I"⟩
abbrev cL_writeDoor : ByteArray := method_37_code
def yL_writeDoor : MethodName := ⟨RL, "writeDoor", "(LDoorAcademy;I)I"⟩
abbrev cL_writeExaminer : ByteArray := method_38_code
def yL_writeExaminer : MethodName := ⟨RL, "writeExaminer", "(LDoorAcademy;I)I"⟩
abbrev cL_outputAt : ByteArray := method_39_code
def yL_outputAt : MethodName := ⟨RL, "outputAt", "(LDoorAcademy;I)I"⟩
abbrev cL_undo : ByteArray := method_40_code
def yL_undo : MethodName := ⟨RL, "undo", "(LDoorAcademy;)I"⟩
abbrev cL_run : ByteArray := method_41_code
def yL_run : MethodName := ⟨RL, "run", "(LDoorAcademy;Ljava/lang/String;)I"⟩
abbrev cL_drawn : ByteArray := method_42_code
def yL_drawn : MethodName := ⟨RL, "drawn", "([I)LDoorAcademy;"⟩
abbrev cL_median : ByteArray := method_43_code
def yL_median : MethodName := ⟨RL, "median", "(LDoorAcademy;I)I"⟩
abbrev cL_canSit : ByteArray := method_44_code
def yL_canSit : MethodName := ⟨RL, "canSit", "(LDoorAcademy;II)Z"⟩
abbrev cL_firstPanel : ByteArray := method_45_code
def yL_firstPanel : MethodName := ⟨RL, "firstPanel", "(LDoorAcademy;I)I"⟩
abbrev cL_law : ByteArray := code
def yL_law : MethodName := ⟨RL, "law", "([I)Z"⟩
abbrev cL_doors : ByteArray := method_47_code
def yL_doors : MethodName := ⟨RL, "doors", "(LDoorAcademy;)Z"⟩
abbrev cL_examiners : ByteArray := method_48_code
def yL_examiners : MethodName := ⟨RL, "examiners", "(LDoorAcademy;)Z"⟩
abbrev cL_panels_ : ByteArray := method_49_code
def yL_panels_ : MethodName := ⟨RL, "panels", "(LDoorAcademy;)Z"⟩
abbrev cL_totals : ByteArray := method_50_code
def yL_totals : MethodName := ⟨RL, "totals", "(LDoorAcademy;)Z"⟩
abbrev cL_spells : ByteArray := method_51_code
def yL_spells : MethodName := ⟨RL, "spells", "(LDoorAcademy;ILjava/lang/String;)Z"⟩
abbrev cL_lines : ByteArray := method_52_code
def yL_lines : MethodName := ⟨RL, "lines", "(LDoorAcademy;)Z"⟩
abbrev cL_sum : ByteArray := method_53_code
def yL_sum : MethodName := ⟨RL, "sum", "(LDoorAcademy;)J"⟩
abbrev cL_undone : ByteArray := method_54_code
def yL_undone : MethodName := ⟨RL, "undone", "([ILDoorAcademy;)Z"⟩
