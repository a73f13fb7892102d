/-! ===== BEGIN printed: names, fields, word lists, decode rows ===== -/
def RX0 : String := "ChanceRings$Course"
def TX0 : u_T := fun k => match k with
  | 0 => ("ChanceRings$Course", "net", "LChanceRings$Net;", true)
  | 1 => ("ChanceRings$Course", "equations", "LChanceRings$Equations;", true)
  | _ => ("ChanceRings$Course", "place", "[I", true)
def tyX0 : Nat → FieldType := fun k => match k with
  | 0 => .object "ChanceRings$Net"
  | 1 => .object "ChanceRings$Equations"
  | _ => .array .int
abbrev wsX00 : List Cond := u_ws RX0 TX0 3
theorem nmX0 : ∀ a, a < 3 → ∀ b, b < 3 → a ≠ b → (TX0 a).2.1 ≠ (TX0 b).2.1 := by decide +kernel
theorem tyX0_ok : ∀ k, k < 3 → parseFieldDescriptor (TX0 k).2.2.1 = some (tyX0 k) := by decide +kernel
abbrev cX0_init : ByteArray := prog_2_method_1_code
def yX0_init : MethodName := ⟨RX0, "<init>", "(LChanceRings$Net;)V"⟩
abbrev cX0_share : ByteArray := prog_2_method_2_code
def yX0_share : MethodName := ⟨RX0, "share", "([III)I"⟩
abbrev cX0_follow : ByteArray := prog_2_method_3_code
def yX0_follow : MethodName := ⟨RX0, "follow", "([II)I"⟩
abbrev cX0_expectPay : ByteArray := prog_2_method_4_code
def yX0_expectPay : MethodName := ⟨RX0, "expectPay", "([IIIILChanceRings$Values;)V"⟩
abbrev cX0_expectMoves : ByteArray := prog_2_method_5_code
def yX0_expectMoves : MethodName := ⟨RX0, "expectMoves", "([IILChanceRings$Values;)V"⟩
abbrev cX0_paidNext : ByteArray := prog_2_method_6_code
def yX0_paidNext : MethodName := ⟨RX0, "paidNext", "([II)J"⟩
abbrev cX0_lay : ByteArray := prog_2_method_7_code
def yX0_lay : MethodName := ⟨RX0, "lay", "([IIII)I"⟩
abbrev cX0_placeOpen : ByteArray := prog_2_method_8_code
def yX0_placeOpen : MethodName := ⟨RX0, "placeOpen", "(I)I"⟩
abbrev cX0_finish : ByteArray := prog_2_method_9_code
def yX0_finish : MethodName := ⟨RX0, "finish", "(ILChanceRings$Values;)V"⟩
def RX1 : String := "ChanceRings$Equations"
def TX1 : u_T := fun k => match k with
  | 0 => ("ChanceRings$Equations", "rows", "[[J", true)
  | 1 => ("ChanceRings$Equations", "right", "[J", true)
  | _ => ("ChanceRings$Equations", "whole", "J", false)
def tyX1 : Nat → FieldType := fun k => match k with
  | 0 => .array (.array .long)
  | 1 => .array .long
  | _ => .long
abbrev wsX10 : List Cond := u_ws RX1 TX1 3
theorem nmX1 : ∀ a, a < 3 → ∀ b, b < 3 → a ≠ b → (TX1 a).2.1 ≠ (TX1 b).2.1 := by decide +kernel
theorem tyX1_ok : ∀ k, k < 3 → parseFieldDescriptor (TX1 k).2.2.1 = some (tyX1 k) := by decide +kernel
abbrev cX1_init : ByteArray := prog_3_method_1_code
def yX1_init : MethodName := ⟨RX1, "<init>", "()V"⟩
abbrev cX1_clear : ByteArray := prog_3_method_2_code
def yX1_clear : MethodName := ⟨RX1, "clear", "()V"⟩
abbrev cX1_solve : ByteArray := prog_3_method_3_code
def yX1_solve : MethodName := ⟨RX1, "solve", "(I)V"⟩
abbrev cX1_eliminate : ByteArray := prog_3_method_4_code
def yX1_eliminate : MethodName := ⟨RX1, "eliminate", "(III)V"⟩
def RX2 : String := "ChanceRings$Net"
def TX2 : u_T := fun k => match k with
  | 0 => ("ChanceRings$Net", "nodes", "I", false)
  | 1 => ("ChanceRings$Net", "kind", "[I", true)
  | 2 => ("ChanceRings$Net", "pay", "[I", true)
  | 3 => ("ChanceRings$Net", "name", "[I", true)
  | 4 => ("ChanceRings$Net", "ways", "[I", true)
  | 5 => ("ChanceRings$Net", "held", "[I", true)
  | 6 => ("ChanceRings$Net", "targets", "[I", true)
  | _ => ("ChanceRings$Net", "weights", "[I", true)
def tyX2 : Nat → FieldType := fun k => match k with
  | 0 => .int
  | 1 => .array .int
  | 2 => .array .int
  | 3 => .array .int
  | 4 => .array .int
  | 5 => .array .int
  | 6 => .array .int
  | _ => .array .int
abbrev wsX20 : List Cond := u_ws RX2 TX2 8
theorem nmX2 : ∀ a, a < 8 → ∀ b, b < 8 → a ≠ b → (TX2 a).2.1 ≠ (TX2 b).2.1 := by decide +kernel
theorem tyX2_ok : ∀ k, k < 8 → parseFieldDescriptor (TX2 k).2.2.1 = some (tyX2 k) := by decide +kernel
abbrev cX2_init : ByteArray := prog_4_method_1_code
def yX2_init : MethodName := ⟨RX2, "<init>", "()V"⟩
abbrev cX2_copyFrom : ByteArray := prog_4_method_2_code
def yX2_copyFrom : MethodName := ⟨RX2, "copyFrom", "(LChanceRings$Net;)V"⟩
abbrev cX2_addNode : ByteArray := prog_4_method_3_code
def yX2_addNode : MethodName := ⟨RX2, "addNode", "(III)V"⟩
abbrev cX2_addWay : ByteArray := prog_4_method_4_code
def yX2_addWay : MethodName := ⟨RX2, "addWay", "(III)V"⟩
abbrev cX2_has : ByteArray := prog_4_method_5_code
def yX2_has : MethodName := ⟨RX2, "has", "(I)Z"⟩
abbrev cX2_hasWay : ByteArray := prog_4_method_6_code
def yX2_hasWay : MethodName := ⟨RX2, "hasWay", "(II)Z"⟩
abbrev cX2_isChooser : ByteArray := prog_4_method_7_code
def yX2_isChooser : MethodName := ⟨RX2, "isChooser", "(I)Z"⟩
abbrev cX2_canTake : ByteArray := prog_4_method_8_code
def yX2_canTake : MethodName := ⟨RX2, "canTake", "(II)Z"⟩
abbrev cX2_target : ByteArray := prog_4_method_9_code
def yX2_target : MethodName := ⟨RX2, "target", "(II)I"⟩
abbrev cX2_weight : ByteArray := prog_4_method_10_code
def yX2_weight : MethodName := ⟨RX2, "weight", "(II)I"⟩
abbrev cX2_setWeight : ByteArray := prog_4_method_11_code
def yX2_setWeight : MethodName := ⟨RX2, "setWeight", "(III)V"⟩
abbrev cX2_together : ByteArray := prog_4_method_12_code
def yX2_together : MethodName := ⟨RX2, "together", "(I)I"⟩
abbrev cX2_nextNodes : ByteArray := prog_4_method_13_code
def yX2_nextNodes : MethodName := ⟨RX2, "nextNodes", "(I)I"⟩
abbrev cX2_payingEnds : ByteArray := prog_4_method_14_code
def yX2_payingEnds : MethodName := ⟨RX2, "payingEnds", "()I"⟩
abbrev cX2_find : ByteArray := prog_4_method_15_code
def yX2_find : MethodName := ⟨RX2, "find", "(I)I"⟩
abbrev cX2_countOf : ByteArray := prog_4_method_16_code
def yX2_countOf : MethodName := ⟨RX2, "countOf", "(I)I"⟩
abbrev cX2_countWays : ByteArray := prog_4_method_17_code
def yX2_countWays : MethodName := ⟨RX2, "countWays", "()I"⟩
abbrev cX2_countTakable : ByteArray := prog_4_method_18_code
def yX2_countTakable : MethodName := ⟨RX2, "countTakable", "(I)I"⟩
abbrev cX2_heldNodes : ByteArray := prog_4_method_19_code
def yX2_heldNodes : MethodName := ⟨RX2, "heldNodes", "()I"⟩
def RX3 : String := "ChanceRings$Outcome"
def TX3 : u_T := fun k => match k with
  | 0 => ("ChanceRings$Outcome", "net", "LChanceRings$Net;", true)
  | 1 => ("ChanceRings$Outcome", "solver", "LChanceRings$Solver;", true)
  | 2 => ("ChanceRings$Outcome", "plan", "[I", true)
  | 3 => ("ChanceRings$Outcome", "worth", "LChanceRings$Values;", true)
  | 4 => ("ChanceRings$Outcome", "length", "LChanceRings$Values;", true)
  | 5 => ("ChanceRings$Outcome", "reach", "[I", true)
  | 6 => ("ChanceRings$Outcome", "ringBits", "[I", true)
  | 7 => ("ChanceRings$Outcome", "ringCount", "I", false)
  | 8 => ("ChanceRings$Outcome", "ringNodes", "I", false)
  | _ => ("ChanceRings$Outcome", "settled", "Z", false)
def tyX3 : Nat → FieldType := fun k => match k with
  | 0 => .object "ChanceRings$Net"
  | 1 => .object "ChanceRings$Solver"
  | 2 => .array .int
  | 3 => .object "ChanceRings$Values"
  | 4 => .object "ChanceRings$Values"
  | 5 => .array .int
  | 6 => .array .int
  | 7 => .int
  | 8 => .int
  | _ => .boolean
abbrev wsX30 : List Cond := u_ws RX3 TX3 10
theorem nmX3 : ∀ a, a < 10 → ∀ b, b < 10 → a ≠ b → (TX3 a).2.1 ≠ (TX3 b).2.1 := by decide +kernel
theorem tyX3_ok : ∀ k, k < 10 → parseFieldDescriptor (TX3 k).2.2.1 = some (tyX3 k) := by decide +kernel
abbrev cX3_init : ByteArray := prog_5_method_1_code
def yX3_init : MethodName := ⟨RX3, "<init>", "(LChanceRings$Net;LChanceRings$Solver;)V"⟩
abbrev cX3_settle : ByteArray := prog_5_method_2_code
def yX3_settle : MethodName := ⟨RX3, "settle", "()V"⟩
abbrev cX3_findReach : ByteArray := prog_5_method_3_code
def yX3_findReach : MethodName := ⟨RX3, "findReach", "()V"⟩
abbrev cX3_findRings : ByteArray := prog_5_method_4_code
def yX3_findRings : MethodName := ⟨RX3, "findRings", "()V"⟩
abbrev cX3_comesBack : ByteArray := prog_5_method_5_code
def yX3_comesBack : MethodName := ⟨RX3, "comesBack", "(I)Z"⟩
abbrev cX3_comesToRing : ByteArray := prog_5_method_6_code
def yX3_comesToRing : MethodName := ⟨RX3, "comesToRing", "(I)Z"⟩
abbrev cX3_worthless : ByteArray := prog_5_method_7_code
def yX3_worthless : MethodName := ⟨RX3, "worthless", "()I"⟩
abbrev cX3_ranked : ByteArray := prog_5_method_8_code
def yX3_ranked : MethodName := ⟨RX3, "ranked", "(I)I"⟩
abbrev cX3_countAhead : ByteArray := prog_5_method_9_code
def yX3_countAhead : MethodName := ⟨RX3, "countAhead", "(I)I"⟩
abbrev cX3_walk : ByteArray := prog_5_method_10_code
def yX3_walk : MethodName := ⟨RX3, "walk", "(III)I"⟩
abbrev cX3_drawnWay : ByteArray := prog_5_method_11_code
def yX3_drawnWay : MethodName := ⟨RX3, "drawnWay", "(II)I"⟩
def RX4 : String := "ChanceRings$Reader"
def TX4 : u_T := fun k => match k with
  | 0 => ("ChanceRings$Reader", "tape", "LChanceRings$Tape;", true)
  | 1 => ("ChanceRings$Reader", "net", "LChanceRings$Net;", true)
  | 2 => ("ChanceRings$Reader", "kindWords", "[I", true)
  | 3 => ("ChanceRings$Reader", "wayWord", "I", true)
  | 4 => ("ChanceRings$Reader", "faultKind", "I", false)
  | 5 => ("ChanceRings$Reader", "faultPlace", "I", false)
  | 6 => ("ChanceRings$Reader", "next", "I", false)
  | 7 => ("ChanceRings$Reader", "token", "I", false)
  | 8 => ("ChanceRings$Reader", "tokenPlace", "I", false)
  | _ => ("ChanceRings$Reader", "tokenValue", "I", false)
def tyX4 : Nat → FieldType := fun k => match k with
  | 0 => .object "ChanceRings$Tape"
  | 1 => .object "ChanceRings$Net"
  | 2 => .array .int
  | 3 => .int
  | 4 => .int
  | 5 => .int
  | 6 => .int
  | 7 => .int
  | 8 => .int
  | _ => .int
abbrev wsX40 : List Cond := u_ws RX4 TX4 10
theorem nmX4 : ∀ a, a < 10 → ∀ b, b < 10 → a ≠ b → (TX4 a).2.1 ≠ (TX4 b).2.1 := by decide +kernel
theorem tyX4_ok : ∀ k, k < 10 → parseFieldDescriptor (TX4 k).2.2.1 = some (tyX4 k) := by decide +kernel
abbrev cX4_init : ByteArray := prog_6_method_1_code
def yX4_init : MethodName := ⟨RX4, "<init>", "(LChanceRings$Tape;LChanceRings$Net;)V"⟩
abbrev cX4_read : ByteArray := prog_6_method_2_code
def yX4_read : MethodName := ⟨RX4, "read", "()V"⟩
abbrev cX4_fail : ByteArray := prog_6_method_3_code
def yX4_fail : MethodName := ⟨RX4, "fail", "(I)V"⟩
abbrev cX4_failAt : ByteArray := prog_6_method_4_code
def yX4_failAt : MethodName := ⟨RX4, "failAt", "(II)V"⟩
abbrev cX4_lacksWay : ByteArray := prog_6_method_5_code
def yX4_lacksWay : MethodName := ⟨RX4, "lacksWay", "()Z"⟩
abbrev cX4_readLine : ByteArray := prog_6_method_6_code
def yX4_readLine : MethodName := ⟨RX4, "readLine", "()V"⟩
abbrev cX4_kindOf : ByteArray := prog_6_method_7_code
def yX4_kindOf : MethodName := ⟨RX4, "kindOf", "(I)I"⟩
abbrev cX4_isFull : ByteArray := prog_6_method_8_code
def yX4_isFull : MethodName := ⟨RX4, "isFull", "(I)Z"⟩
abbrev cX4_isName : ByteArray := prog_6_method_9_code
def yX4_isName : MethodName := ⟨RX4, "isName", "()Z"⟩
abbrev cX4_readNode : ByteArray := prog_6_method_10_code
def yX4_readNode : MethodName := ⟨RX4, "readNode", "(I)V"⟩
abbrev cX4_isPay : ByteArray := prog_6_method_11_code
def yX4_isPay : MethodName := ⟨RX4, "isPay", "()Z"⟩
abbrev cX4_readStart : ByteArray := prog_6_method_12_code
def yX4_readStart : MethodName := ⟨RX4, "readStart", "()I"⟩
abbrev cX4_readTarget : ByteArray := prog_6_method_13_code
def yX4_readTarget : MethodName := ⟨RX4, "readTarget", "(I)V"⟩
abbrev cX4_isWeightFor : ByteArray := prog_6_method_14_code
def yX4_isWeightFor : MethodName := ⟨RX4, "isWeightFor", "(I)Z"⟩
abbrev cX4_advance : ByteArray := prog_6_method_15_code
def yX4_advance : MethodName := ⟨RX4, "advance", "()V"⟩
abbrev cX4_takeRun : ByteArray := prog_6_method_16_code
def yX4_takeRun : MethodName := ⟨RX4, "takeRun", "()V"⟩
abbrev cX4_isLetter : ByteArray := prog_6_method_17_code
def yX4_isLetter : MethodName := ⟨RX4, "isLetter", "(I)Z"⟩
abbrev cX4_isDigit : ByteArray := prog_6_method_18_code
def yX4_isDigit : MethodName := ⟨RX4, "isDigit", "(I)Z"⟩
def RX5 : String := "ChanceRings$Regions"
def TX5 : u_T := fun k => match k with
  | _ => ("ChanceRings$Regions", "net", "LChanceRings$Net;", true)
def tyX5 : Nat → FieldType := fun k => match k with
  | _ => .object "ChanceRings$Net"
abbrev wsX50 : List Cond := u_ws RX5 TX5 1
theorem nmX5 : ∀ a, a < 1 → ∀ b, b < 1 → a ≠ b → (TX5 a).2.1 ≠ (TX5 b).2.1 := by decide +kernel
theorem tyX5_ok : ∀ k, k < 1 → parseFieldDescriptor (TX5 k).2.2.1 = some (tyX5 k) := by decide +kernel
abbrev cX5_init : ByteArray := prog_7_method_1_code
def yX5_init : MethodName := ⟨RX5, "<init>", "(LChanceRings$Net;)V"⟩
abbrev cX5_forcedInto : ByteArray := prog_7_method_2_code
def yX5_forcedInto : MethodName := ⟨RX5, "forcedInto", "(II)I"⟩
abbrev cX5_surelyPaid : ByteArray := prog_7_method_3_code
def yX5_surelyPaid : MethodName := ⟨RX5, "surelyPaid", "()I"⟩
abbrev cX5_broughtToPay : ByteArray := prog_7_method_4_code
def yX5_broughtToPay : MethodName := ⟨RX5, "broughtToPay", "(I)I"⟩
abbrev cX5_isBroughtToPay : ByteArray := prog_7_method_5_code
def yX5_isBroughtToPay : MethodName := ⟨RX5, "isBroughtToPay", "(III)Z"⟩
abbrev cX5_movesToPay : ByteArray := prog_7_method_6_code
def yX5_movesToPay : MethodName := ⟨RX5, "movesToPay", "(I)I"⟩
def RX6 : String := "ChanceRings$Solver"
def TX6 : u_T := fun k => match k with
  | 0 => ("ChanceRings$Solver", "net", "LChanceRings$Net;", true)
  | 1 => ("ChanceRings$Solver", "course", "LChanceRings$Course;", true)
  | 2 => ("ChanceRings$Solver", "keep", "[I", true)
  | _ => ("ChanceRings$Solver", "scaled", "[J", true)
def tyX6 : Nat → FieldType := fun k => match k with
  | 0 => .object "ChanceRings$Net"
  | 1 => .object "ChanceRings$Course"
  | 2 => .array .int
  | _ => .array .long
abbrev wsX60 : List Cond := u_ws RX6 TX6 4
theorem nmX6 : ∀ a, a < 4 → ∀ b, b < 4 → a ≠ b → (TX6 a).2.1 ≠ (TX6 b).2.1 := by decide +kernel
theorem tyX6_ok : ∀ k, k < 4 → parseFieldDescriptor (TX6 k).2.2.1 = some (tyX6 k) := by decide +kernel
abbrev cX6_init : ByteArray := prog_8_method_1_code
def yX6_init : MethodName := ⟨RX6, "<init>", "(LChanceRings$Net;)V"⟩
abbrev cX6_firstWays : ByteArray := prog_8_method_2_code
def yX6_firstWays : MethodName := ⟨RX6, "firstWays", "([I)V"⟩
abbrev cX6_findLeft : ByteArray := prog_8_method_3_code
def yX6_findLeft : MethodName := ⟨RX6, "findLeft", "([IIILChanceRings$Values;)V"⟩
abbrev cX6_findWorth : ByteArray := prog_8_method_4_code
def yX6_findWorth : MethodName := ⟨RX6, "findWorth", "([IIILChanceRings$Values;)V"⟩
abbrev cX6_turn : ByteArray := prog_8_method_5_code
def yX6_turn : MethodName := ⟨RX6, "turn", "(I[ILChanceRings$Values;)I"⟩
abbrev cX6_turnOpen : ByteArray := prog_8_method_6_code
def yX6_turnOpen : MethodName := ⟨RX6, "turnOpen", "(I[ILChanceRings$Values;I)I"⟩
abbrev cX6_betterWay : ByteArray := prog_8_method_7_code
def yX6_betterWay : MethodName := ⟨RX6, "betterWay", "(IILChanceRings$Values;)I"⟩
abbrev cX6_unavoidable : ByteArray := prog_8_method_8_code
def yX6_unavoidable : MethodName := ⟨RX6, "unavoidable", "([I)I"⟩
abbrev cX6_findWithin : ByteArray := prog_8_method_9_code
def yX6_findWithin : MethodName := ⟨RX6, "findWithin", "(ILChanceRings$Values;)V"⟩
abbrev cX6_oneMoveMore : ByteArray := prog_8_method_10_code
def yX6_oneMoveMore : MethodName := ⟨RX6, "oneMoveMore", "(ILChanceRings$Values;)J"⟩
abbrev cX6_findBest : ByteArray := prog_8_method_11_code
def yX6_findBest : MethodName := ⟨RX6, "findBest", "(LChanceRings$Values;[I)V"⟩
abbrev cX6_goodWays : ByteArray := prog_8_method_12_code
def yX6_goodWays : MethodName := ⟨RX6, "goodWays", "(ILChanceRings$Values;)I"⟩
abbrev cX6_lowest : ByteArray := prog_8_method_13_code
def yX6_lowest : MethodName := ⟨RX6, "lowest", "(I)I"⟩
abbrev cX6_keepEven : ByteArray := prog_8_method_14_code
def yX6_keepEven : MethodName := ⟨RX6, "keepEven", "(LChanceRings$Values;)V"⟩
abbrev cX6_goodOf : ByteArray := prog_8_method_15_code
def yX6_goodOf : MethodName := ⟨RX6, "goodOf", "(ILChanceRings$Values;)I"⟩
abbrev cX6_bringsAll : ByteArray := prog_8_method_16_code
def yX6_bringsAll : MethodName := ⟨RX6, "bringsAll", "(LChanceRings$Values;)Z"⟩
abbrev cX6_isBrought : ByteArray := prog_8_method_17_code
def yX6_isBrought : MethodName := ⟨RX6, "isBrought", "(IILChanceRings$Values;)Z"⟩
def RX7 : String := "ChanceRings$Steps"
def TX7 : u_T := fun k => match k with
  | 0 => ("ChanceRings$Steps", "what", "[I", true)
  | 1 => ("ChanceRings$Steps", "node", "[I", true)
  | 2 => ("ChanceRings$Steps", "index", "[I", true)
  | 3 => ("ChanceRings$Steps", "before", "[I", true)
  | _ => ("ChanceRings$Steps", "count", "I", false)
def tyX7 : Nat → FieldType := fun k => match k with
  | 0 => .array .int
  | 1 => .array .int
  | 2 => .array .int
  | 3 => .array .int
  | _ => .int
abbrev wsX70 : List Cond := u_ws RX7 TX7 5
theorem nmX7 : ∀ a, a < 5 → ∀ b, b < 5 → a ≠ b → (TX7 a).2.1 ≠ (TX7 b).2.1 := by decide +kernel
theorem tyX7_ok : ∀ k, k < 5 → parseFieldDescriptor (TX7 k).2.2.1 = some (tyX7 k) := by decide +kernel
abbrev cX7_init : ByteArray := prog_9_method_1_code
def yX7_init : MethodName := ⟨RX7, "<init>", "()V"⟩
abbrev cX7_add : ByteArray := prog_9_method_2_code
def yX7_add : MethodName := ⟨RX7, "add", "(IIII)V"⟩
abbrev cX7_forgetOldest : ByteArray := prog_9_method_3_code
def yX7_forgetOldest : MethodName := ⟨RX7, "forgetOldest", "()V"⟩
abbrev cX7_takeBack : ByteArray := prog_9_method_4_code
def yX7_takeBack : MethodName := ⟨RX7, "takeBack", "(LChanceRings$Net;)V"⟩
def RX8 : String := "ChanceRings$Tape"
def TX8 : u_T := fun k => match k with
  | 0 => ("ChanceRings$Tape", "bytes", "[I", true)
  | _ => ("ChanceRings$Tape", "length", "I", false)
def tyX8 : Nat → FieldType := fun k => match k with
  | 0 => .array .int
  | _ => .int
abbrev wsX80 : List Cond := u_ws RX8 TX8 2
theorem nmX8 : ∀ a, a < 2 → ∀ b, b < 2 → a ≠ b → (TX8 a).2.1 ≠ (TX8 b).2.1 := by decide +kernel
theorem tyX8_ok : ∀ k, k < 2 → parseFieldDescriptor (TX8 k).2.2.1 = some (tyX8 k) := by decide +kernel
abbrev cX8_init : ByteArray := prog_10_method_1_code
def yX8_init : MethodName := ⟨RX8, "<init>", "()V"⟩
abbrev cX8_append : ByteArray := prog_10_method_2_code
def yX8_append : MethodName := ⟨RX8, "append", "(I)V"⟩
abbrev cX8_tellsFractions : ByteArray := prog_10_method_3_code
def yX8_tellsFractions : MethodName := ⟨RX8, "tellsFractions", "(I)Z"⟩
abbrev cX8_numerator : ByteArray := prog_10_method_4_code
def yX8_numerator : MethodName := ⟨RX8, "numerator", "(I)J"⟩
abbrev cX8_denominator : ByteArray := prog_10_method_5_code
def yX8_denominator : MethodName := ⟨RX8, "denominator", "(I)J"⟩
def RX9 : String := "ChanceRings$Telling"
def TX9 : u_T := fun k => match k with
  | 0 => ("ChanceRings$Telling", "bytes", "[I", true)
  | _ => ("ChanceRings$Telling", "length", "I", false)
def tyX9 : Nat → FieldType := fun k => match k with
  | 0 => .array .int
  | _ => .int
abbrev wsX90 : List Cond := u_ws RX9 TX9 2
theorem nmX9 : ∀ a, a < 2 → ∀ b, b < 2 → a ≠ b → (TX9 a).2.1 ≠ (TX9 b).2.1 := by decide +kernel
theorem tyX9_ok : ∀ k, k < 2 → parseFieldDescriptor (TX9 k).2.2.1 = some (tyX9 k) := by decide +kernel
abbrev cX9_init : ByteArray := prog_11_method_1_code
def yX9_init : MethodName := ⟨RX9, "<init>", "()V"⟩
abbrev cX9_tell : ByteArray := prog_11_method_2_code
def yX9_tell : MethodName := ⟨RX9, "tell", "(LChanceRings$Net;LChanceRings$Reader;)V"⟩
abbrev cX9_put : ByteArray := prog_11_method_3_code
def yX9_put : MethodName := ⟨RX9, "put", "(I)V"⟩
abbrev cX9_putDigit : ByteArray := prog_11_method_4_code
def yX9_putDigit : MethodName := ⟨RX9, "putDigit", "(I)V"⟩
abbrev cX9_putSpaced : ByteArray := prog_11_method_5_code
def yX9_putSpaced : MethodName := ⟨RX9, "putSpaced", "(I)V"⟩
abbrev cX9_putWord : ByteArray := prog_11_method_6_code
def yX9_putWord : MethodName := ⟨RX9, "putWord", "(I)V"⟩
def RX10 : String := "ChanceRings$Values"
def TX10 : u_T := fun k => match k with
  | 0 => ("ChanceRings$Values", "part", "[J", true)
  | _ => ("ChanceRings$Values", "whole", "J", false)
def tyX10 : Nat → FieldType := fun k => match k with
  | 0 => .array .long
  | _ => .long
abbrev wsX100 : List Cond := u_ws RX10 TX10 2
theorem nmX10 : ∀ a, a < 2 → ∀ b, b < 2 → a ≠ b → (TX10 a).2.1 ≠ (TX10 b).2.1 := by decide +kernel
theorem tyX10_ok : ∀ k, k < 2 → parseFieldDescriptor (TX10 k).2.2.1 = some (tyX10 k) := by decide +kernel
abbrev cX10_init : ByteArray := prog_12_method_1_code
def yX10_init : MethodName := ⟨RX10, "<init>", "()V"⟩
abbrev cX10_term : ByteArray := prog_12_method_2_code
def yX10_term : MethodName := ⟨RX10, "term", "(II)J"⟩
abbrev cX10_commonDivisor : ByteArray := prog_12_method_3_code
def yX10_commonDivisor : MethodName := ⟨RX10, "commonDivisor", "(JJ)J"⟩
def RX11 : String := "ChanceRings"
def TX11 : u_T := fun k => match k with
  | 0 => ("ChanceRings", "tape", "LChanceRings$Tape;", true)
  | 1 => ("ChanceRings", "net", "LChanceRings$Net;", true)
  | 2 => ("ChanceRings", "draft", "LChanceRings$Net;", true)
  | 3 => ("ChanceRings", "images", "[LChanceRings$Net;", true)
  | 4 => ("ChanceRings", "kept", "[Z", true)
  | 5 => ("ChanceRings", "reader", "LChanceRings$Reader;", true)
  | 6 => ("ChanceRings", "steps", "LChanceRings$Steps;", true)
  | 7 => ("ChanceRings", "telling", "LChanceRings$Telling;", true)
  | 8 => ("ChanceRings", "regions", "LChanceRings$Regions;", true)
  | 9 => ("ChanceRings", "solver", "LChanceRings$Solver;", true)
  | 10 => ("ChanceRings", "outcome", "LChanceRings$Outcome;", true)
  | 11 => ("ChanceRings", "tried", "[I", true)
  | 12 => ("ChanceRings", "left", "LChanceRings$Values;", true)
  | 13 => ("ChanceRings", "leftKnown", "Z", false)
  | 14 => ("ChanceRings", "stoppedWays", "[I", true)
  | 15 => ("ChanceRings", "stoppedWorth", "LChanceRings$Values;", true)
  | 16 => ("ChanceRings", "stoppedBy", "I", false)
  | _ => ("ChanceRings", "withinWorth", "LChanceRings$Values;", true)
def tyX11 : Nat → FieldType := fun k => match k with
  | 0 => .object "ChanceRings$Tape"
  | 1 => .object "ChanceRings$Net"
  | 2 => .object "ChanceRings$Net"
  | 3 => .array (.object "ChanceRings$Net")
  | 4 => .array .boolean
  | 5 => .object "ChanceRings$Reader"
  | 6 => .object "ChanceRings$Steps"
  | 7 => .object "ChanceRings$Telling"
  | 8 => .object "ChanceRings$Regions"
  | 9 => .object "ChanceRings$Solver"
  | 10 => .object "ChanceRings$Outcome"
  | 11 => .array .int
  | 12 => .object "ChanceRings$Values"
  | 13 => .boolean
  | 14 => .array .int
  | 15 => .object "ChanceRings$Values"
  | 16 => .int
  | _ => .object "ChanceRings$Values"
abbrev wsX110 : List Cond := u_ws RX11 TX11 18
theorem nmX11 : ∀ a, a < 18 → ∀ b, b < 18 → a ≠ b → (TX11 a).2.1 ≠ (TX11 b).2.1 := by decide +kernel
theorem tyX11_ok : ∀ k, k < 18 → parseFieldDescriptor (TX11 k).2.2.1 = some (tyX11 k) := by decide +kernel
abbrev cX11_init : ByteArray := prog_1_method_1_code
def yX11_init : MethodName := ⟨RX11, "<init>", "()V"⟩
abbrev cX11_feed : ByteArray := prog_1_method_2_code
def yX11_feed : MethodName := ⟨RX11, "feed", "(IIIII)I"⟩
abbrev cX11_end : ByteArray := prog_1_method_3_code
def yX11_end : MethodName := ⟨RX11, "end", "(I)Z"⟩
abbrev cX11_game : ByteArray := prog_1_method_4_code
def yX11_game : MethodName := ⟨RX11, "game", "()I"⟩
abbrev cX11_fault : ByteArray := prog_1_method_5_code
def yX11_fault : MethodName := ⟨RX11, "fault", "()I"⟩
abbrev cX11_node : ByteArray := prog_1_method_6_code
def yX11_node : MethodName := ⟨RX11, "node", "(II)I"⟩
abbrev cX11_way : ByteArray := prog_1_method_7_code
def yX11_way : MethodName := ⟨RX11, "way", "(III)I"⟩
abbrev cX11_worth : ByteArray := prog_1_method_8_code
def yX11_worth : MethodName := ⟨RX11, "worth", "(II)J"⟩
abbrev cX11_best : ByteArray := prog_1_method_9_code
def yX11_best : MethodName := ⟨RX11, "best", "(I)I"⟩
abbrev cX11_good : ByteArray := prog_1_method_10_code
def yX11_good : MethodName := ⟨RX11, "good", "(I)I"⟩
abbrev cX11_tried : ByteArray := prog_1_method_11_code
def yX11_tried : MethodName := ⟨RX11, "tried", "(I)I"⟩
abbrev cX11_left : ByteArray := prog_1_method_12_code
def yX11_left : MethodName := ⟨RX11, "left", "(II)J"⟩
abbrev cX11_improve : ByteArray := prog_1_method_13_code
def yX11_improve : MethodName := ⟨RX11, "improve", "()I"⟩
abbrev cX11_improveAll : ByteArray := prog_1_method_14_code
def yX11_improveAll : MethodName := ⟨RX11, "improveAll", "()I"⟩
abbrev cX11_hold : ByteArray := prog_1_method_15_code
def yX11_hold : MethodName := ⟨RX11, "hold", "(II)I"⟩
abbrev cX11_free : ByteArray := prog_1_method_16_code
def yX11_free : MethodName := ⟨RX11, "free", "(I)I"⟩
abbrev cX11_weigh : ByteArray := prog_1_method_17_code
def yX11_weigh : MethodName := ⟨RX11, "weigh", "(III)I"⟩
abbrev cX11_pay : ByteArray := prog_1_method_18_code
def yX11_pay : MethodName := ⟨RX11, "pay", "(II)I"⟩
abbrev cX11_stopped : ByteArray := prog_1_method_19_code
def yX11_stopped : MethodName := ⟨RX11, "stopped", "(III)J"⟩
abbrev cX11_within : ByteArray := prog_1_method_20_code
def yX11_within : MethodName := ⟨RX11, "within", "(III)J"⟩
abbrev cX11_forced : ByteArray := prog_1_method_21_code
def yX11_forced : MethodName := ⟨RX11, "forced", "(II)I"⟩
abbrev cX11_rings : ByteArray := prog_1_method_22_code
def yX11_rings : MethodName := ⟨RX11, "rings", "()I"⟩
abbrev cX11_ring : ByteArray := prog_1_method_23_code
def yX11_ring : MethodName := ⟨RX11, "ring", "(I)I"⟩
abbrev cX11_moves : ByteArray := prog_1_method_24_code
def yX11_moves : MethodName := ⟨RX11, "moves", "(II)J"⟩
abbrev cX11_sets : ByteArray := prog_1_method_25_code
def yX11_sets : MethodName := ⟨RX11, "sets", "(II)I"⟩
abbrev cX11_rank : ByteArray := prog_1_method_26_code
def yX11_rank : MethodName := ⟨RX11, "rank", "(I)I"⟩
abbrev cX11_above : ByteArray := prog_1_method_27_code
def yX11_above : MethodName := ⟨RX11, "above", "()I"⟩
abbrev cX11_below : ByteArray := prog_1_method_28_code
def yX11_below : MethodName := ⟨RX11, "below", "()I"⟩
abbrev cX11_play : ByteArray := prog_1_method_29_code
def yX11_play : MethodName := ⟨RX11, "play", "(III)I"⟩
abbrev cX11_often : ByteArray := prog_1_method_30_code
def yX11_often : MethodName := ⟨RX11, "often", "(IIII)I"⟩
abbrev cX11_text : ByteArray := prog_1_method_31_code
def yX11_text : MethodName := ⟨RX11, "text", "()I"⟩
abbrev cX11_byteAt : ByteArray := prog_1_method_32_code
def yX11_byteAt : MethodName := ⟨RX11, "byteAt", "(I)I"⟩
abbrev cX11_undo : ByteArray := prog_1_method_33_code
def yX11_undo : MethodName := ⟨RX11, "undo", "()I"⟩
abbrev cX11_image : ByteArray := prog_1_method_34_code
def yX11_image : MethodName := ⟨RX11, "image", "(I)Z"⟩
abbrev cX11_restore : ByteArray := prog_1_method_35_code
def yX11_restore : MethodName := ⟨RX11, "restore", "(I)Z"⟩
abbrev cX11_count : ByteArray := prog_1_method_36_code
def yX11_count : MethodName := ⟨RX11, "count", "(I)I"⟩
abbrev cX11_renew : ByteArray := prog_1_method_37_code
def yX11_renew : MethodName := ⟨RX11, "renew", "()V"⟩
abbrev cX11_knowLeft : ByteArray := prog_1_method_38_code
def yX11_knowLeft : MethodName := ⟨RX11, "knowLeft", "()V"⟩
abbrev cX11_firstUnproved : ByteArray := prog_1_method_39_code
def yX11_firstUnproved : MethodName := ⟨RX11, "firstUnproved", "()I"⟩
abbrev cX11_isProved : ByteArray := prog_1_method_40_code
def yX11_isProved : MethodName := ⟨RX11, "isProved", "(I)Z"⟩
abbrev cX11_countCovered : ByteArray := prog_1_method_41_code
def yX11_countCovered : MethodName := ⟨RX11, "countCovered", "(I)I"⟩
abbrev cX11_coversMean : ByteArray := prog_1_method_42_code
def yX11_coversMean : MethodName := ⟨RX11, "coversMean", "(I)Z"⟩
abbrev cX11_firstWithLess : ByteArray := prog_1_method_43_code
def yX11_firstWithLess : MethodName := ⟨RX11, "firstWithLess", "()I"⟩
abbrev cX11_pack : ByteArray := prog_1_method_44_code
def yX11_pack : MethodName := ⟨RX11, "pack", "(Ljava/lang/String;)I"⟩
def RX12 : String := "ChanceRingsModel"
def TX12 : u_T := fun k => match k with
  | 0 => ("ChanceRingsModel", "thrown", "I", false)
  | 1 => ("ChanceRingsModel", "s", "[I", true)
  | 2 => ("ChanceRingsModel", "spare", "[I", true)
  | 3 => ("ChanceRingsModel", "kept", "[I", true)
  | 4 => ("ChanceRingsModel", "undone", "[I", true)
  | 5 => ("ChanceRingsModel", "triedWay", "[I", true)
  | 6 => ("ChanceRingsModel", "isKept", "[Z", true)
  | 7 => ("ChanceRingsModel", "undoMany", "I", false)
  | 8 => ("ChanceRingsModel", "tape", "[B", true)
  | 9 => ("ChanceRingsModel", "length", "I", false)
  | 10 => ("ChanceRingsModel", "size", "I", false)
  | 11 => ("ChanceRingsModel", "p", "I", false)
  | 12 => ("ChanceRingsModel", "at", "I", false)
  | 13 => ("ChanceRingsModel", "token", "I", false)
  | 14 => ("ChanceRingsModel", "number", "I", false)
  | 15 => ("ChanceRingsModel", "letterMany", "I", false)
  | 16 => ("ChanceRingsModel", "fault", "I", false)
  | 17 => ("ChanceRingsModel", "faultAt", "I", false)
  | 18 => ("ChanceRingsModel", "letters", "[B", true)
  | 19 => ("ChanceRingsModel", "isKnown", "Z", false)
  | 20 => ("ChanceRingsModel", "choice", "[I", true)
  | 21 => ("ChanceRingsModel", "row", "[I", true)
  | 22 => ("ChanceRingsModel", "up", "[J", true)
  | 23 => ("ChanceRingsModel", "low", "[J", true)
  | 24 => ("ChanceRingsModel", "m", "[[J", true)
  | 25 => ("ChanceRingsModel", "bestUp", "[J", true)
  | 26 => ("ChanceRingsModel", "bestLow", "[J", true)
  | 27 => ("ChanceRingsModel", "replyUp", "[J", true)
  | 28 => ("ChanceRingsModel", "replyLow", "[J", true)
  | 29 => ("ChanceRingsModel", "worthUp", "[J", true)
  | 30 => ("ChanceRingsModel", "worthLow", "[J", true)
  | 31 => ("ChanceRingsModel", "bestWay", "[I", true)
  | 32 => ("ChanceRingsModel", "seed", "I", false)
  | 33 => ("ChanceRingsModel", "told", "[B", true)
  | _ => ("ChanceRingsModel", "toldMany", "I", false)
def tyX12 : Nat → FieldType := fun k => match k with
  | 0 => .int
  | 1 => .array .int
  | 2 => .array .int
  | 3 => .array .int
  | 4 => .array .int
  | 5 => .array .int
  | 6 => .array .boolean
  | 7 => .int
  | 8 => .array .byte
  | 9 => .int
  | 10 => .int
  | 11 => .int
  | 12 => .int
  | 13 => .int
  | 14 => .int
  | 15 => .int
  | 16 => .int
  | 17 => .int
  | 18 => .array .byte
  | 19 => .boolean
  | 20 => .array .int
  | 21 => .array .int
  | 22 => .array .long
  | 23 => .array .long
  | 24 => .array (.array .long)
  | 25 => .array .long
  | 26 => .array .long
  | 27 => .array .long
  | 28 => .array .long
  | 29 => .array .long
  | 30 => .array .long
  | 31 => .array .int
  | 32 => .int
  | 33 => .array .byte
  | _ => .int
abbrev wsX120 : List Cond := u_ws RX12 TX12 35
theorem nmX12 : ∀ a, a < 35 → ∀ b, b < 35 → a ≠ b → (TX12 a).2.1 ≠ (TX12 b).2.1 := by decide +kernel
theorem tyX12_ok : ∀ k, k < 35 → parseFieldDescriptor (TX12 k).2.2.1 = some (tyX12 k) := by decide +kernel
abbrev cX12_throwsIf : ByteArray := prog_14_method_2_code
def yX12_throwsIf : MethodName := ⟨RX12, "throwsIf", "(Z)Z"⟩
abbrev cX12_init : ByteArray := prog_14_method_3_code
def yX12_init : MethodName := ⟨RX12, "<init>", "()V"⟩
abbrev cX12_feed : ByteArray := prog_14_method_4_code
def yX12_feed : MethodName := ⟨RX12, "feed", "(IIIII)I"⟩
abbrev cX12_four : ByteArray := prog_14_method_5_code
def yX12_four : MethodName := ⟨RX12, "four", "(I)V"⟩
abbrev cX12_end : ByteArray := prog_14_method_6_code
def yX12_end : MethodName := ⟨RX12, "end", "(I)Z"⟩
abbrev cX12_taken : ByteArray := prog_14_method_7_code
def yX12_taken : MethodName := ⟨RX12, "taken", "()V"⟩
abbrev cX12_isIn : ByteArray := prog_14_method_8_code
def yX12_isIn : MethodName := ⟨RX12, "isIn", "(III)Z"⟩
abbrev cX12_bitOf : ByteArray := prog_14_method_9_code
def yX12_bitOf : MethodName := ⟨RX12, "bitOf", "(II)Z"⟩
abbrev cX12_copies : ByteArray := prog_14_method_10_code
def yX12_copies : MethodName := ⟨RX12, "copies", "([II[II)V"⟩
abbrev cX12_peek : ByteArray := prog_14_method_11_code
def yX12_peek : MethodName := ⟨RX12, "peek", "()I"⟩
abbrev cX12_isSmall : ByteArray := prog_14_method_12_code
def yX12_isSmall : MethodName := ⟨RX12, "isSmall", "(I)Z"⟩
abbrev cX12_isDigit : ByteArray := prog_14_method_13_code
def yX12_isDigit : MethodName := ⟨RX12, "isDigit", "(I)Z"⟩
abbrev cX12_bad : ByteArray := prog_14_method_14_code
def yX12_bad : MethodName := ⟨RX12, "bad", "(II)Z"⟩
abbrev cX12_badHere : ByteArray := prog_14_method_15_code
def yX12_badHere : MethodName := ⟨RX12, "badHere", "(I)Z"⟩
abbrev cX12_next : ByteArray := prog_14_method_16_code
def yX12_next : MethodName := ⟨RX12, "next", "()V"⟩
abbrev cX12_known : ByteArray := prog_14_method_17_code
def yX12_known : MethodName := ⟨RX12, "known", "()I"⟩
abbrev cX12_isName : ByteArray := prog_14_method_18_code
def yX12_isName : MethodName := ⟨RX12, "isName", "()Z"⟩
abbrev cX12_named : ByteArray := prog_14_method_19_code
def yX12_named : MethodName := ⟨RX12, "named", "()I"⟩
abbrev cX12_manyOf : ByteArray := prog_14_method_20_code
def yX12_manyOf : MethodName := ⟨RX12, "manyOf", "([II)I"⟩
abbrev cX12_nodeLine : ByteArray := prog_14_method_21_code
def yX12_nodeLine : MethodName := ⟨RX12, "nodeLine", "(I)Z"⟩
abbrev cX12_weights : ByteArray := prog_14_method_22_code
def yX12_weights : MethodName := ⟨RX12, "weights", "([II)I"⟩
abbrev cX12_wayLine : ByteArray := prog_14_method_23_code
def yX12_wayLine : MethodName := ⟨RX12, "wayLine", "()Z"⟩
abbrev cX12_reads : ByteArray := prog_14_method_24_code
def yX12_reads : MethodName := ⟨RX12, "reads", "()Z"⟩
abbrev cX12_game : ByteArray := prog_14_method_25_code
def yX12_game : MethodName := ⟨RX12, "game", "()I"⟩
abbrev cX12_fault : ByteArray := prog_14_method_26_code
def yX12_fault : MethodName := ⟨RX12, "fault", "()I"⟩
abbrev cX12_changed : ByteArray := prog_14_method_27_code
def yX12_changed : MethodName := ⟨RX12, "changed", "()V"⟩
abbrev cX12_isNode : ByteArray := prog_14_method_28_code
def yX12_isNode : MethodName := ⟨RX12, "isNode", "(I)Z"⟩
abbrev cX12_isKind : ByteArray := prog_14_method_29_code
def yX12_isKind : MethodName := ⟨RX12, "isKind", "(II)Z"⟩
abbrev cX12_isPlayer : ByteArray := prog_14_method_30_code
def yX12_isPlayer : MethodName := ⟨RX12, "isPlayer", "(I)Z"⟩
abbrev cX12_isWay : ByteArray := prog_14_method_31_code
def yX12_isWay : MethodName := ⟨RX12, "isWay", "(II)Z"⟩
abbrev cX12_to : ByteArray := prog_14_method_32_code
def yX12_to : MethodName := ⟨RX12, "to", "(II)I"⟩
abbrev cX12_heavy : ByteArray := prog_14_method_33_code
def yX12_heavy : MethodName := ⟨RX12, "heavy", "(II)I"⟩
abbrev cX12_may : ByteArray := prog_14_method_34_code
def yX12_may : MethodName := ⟨RX12, "may", "(II)Z"⟩
abbrev cX12_node : ByteArray := prog_14_method_35_code
def yX12_node : MethodName := ⟨RX12, "node", "(II)I"⟩
abbrev cX12_way : ByteArray := prog_14_method_36_code
def yX12_way : MethodName := ⟨RX12, "way", "(III)I"⟩
abbrev cX12_divisor : ByteArray := prog_14_method_37_code
def yX12_divisor : MethodName := ⟨RX12, "divisor", "(JJ)J"⟩
abbrev cX12_lays : ByteArray := prog_14_method_38_code
def yX12_lays : MethodName := ⟨RX12, "lays", "(IJJ)V"⟩
abbrev cX12_onBits : ByteArray := prog_14_method_39_code
def yX12_onBits : MethodName := ⟨RX12, "onBits", "(I)I"⟩
abbrev cX12_comes : ByteArray := prog_14_method_40_code
def yX12_comes : MethodName := ⟨RX12, "comes", "(I)I"⟩
abbrev cX12_ends : ByteArray := prog_14_method_41_code
def yX12_ends : MethodName := ⟨RX12, "ends", "()I"⟩
abbrev cX12_solves : ByteArray := prog_14_method_42_code
def yX12_solves : MethodName := ⟨RX12, "solves", "(I)J"⟩
abbrev cX12_plays : ByteArray := prog_14_method_43_code
def yX12_plays : MethodName := ⟨RX12, "plays", "(II)V"⟩
abbrev cX12_firstPlan : ByteArray := prog_14_method_44_code
def yX12_firstPlan : MethodName := ⟨RX12, "firstPlan", "(I)V"⟩
abbrev cX12_nextPlan : ByteArray := prog_14_method_45_code
def yX12_nextPlan : MethodName := ⟨RX12, "nextPlan", "(I)Z"⟩
abbrev cX12_isMore : ByteArray := prog_14_method_46_code
def yX12_isMore : MethodName := ⟨RX12, "isMore", "(JJJJ)Z"⟩
abbrev cX12_replies : ByteArray := prog_14_method_47_code
def yX12_replies : MethodName := ⟨RX12, "replies", "(II)V"⟩
abbrev cX12_values : ByteArray := prog_14_method_48_code
def yX12_values : MethodName := ⟨RX12, "values", "(I)V"⟩
abbrev cX12_isWorth : ByteArray := prog_14_method_49_code
def yX12_isWorth : MethodName := ⟨RX12, "isWorth", "()Z"⟩
abbrev cX12_findsPlan : ByteArray := prog_14_method_50_code
def yX12_findsPlan : MethodName := ⟨RX12, "findsPlan", "(I)V"⟩
abbrev cX12_knows : ByteArray := prog_14_method_51_code
def yX12_knows : MethodName := ⟨RX12, "knows", "()V"⟩
abbrev cX12_isPart : ByteArray := prog_14_method_52_code
def yX12_isPart : MethodName := ⟨RX12, "isPart", "(I)Z"⟩
abbrev cX12_worth : ByteArray := prog_14_method_53_code
def yX12_worth : MethodName := ⟨RX12, "worth", "(II)J"⟩
abbrev cX12_best : ByteArray := prog_14_method_54_code
def yX12_best : MethodName := ⟨RX12, "best", "(I)I"⟩
abbrev cX12_good : ByteArray := prog_14_method_55_code
def yX12_good : MethodName := ⟨RX12, "good", "(I)I"⟩
abbrev cX12_tried : ByteArray := prog_14_method_56_code
def yX12_tried : MethodName := ⟨RX12, "tried", "(I)I"⟩
abbrev cX12_laysLeft : ByteArray := prog_14_method_57_code
def yX12_laysLeft : MethodName := ⟨RX12, "laysLeft", "()V"⟩
abbrev cX12_left : ByteArray := prog_14_method_58_code
def yX12_left : MethodName := ⟨RX12, "left", "(II)J"⟩
abbrev cX12_isMoreAt : ByteArray := prog_14_method_59_code
def yX12_isMoreAt : MethodName := ⟨RX12, "isMoreAt", "(II)Z"⟩
abbrev cX12_improves : ByteArray := prog_14_method_60_code
def yX12_improves : MethodName := ⟨RX12, "improves", "()I"⟩
abbrev cX12_improve : ByteArray := prog_14_method_61_code
def yX12_improve : MethodName := ⟨RX12, "improve", "()I"⟩
abbrev cX12_improveAll : ByteArray := prog_14_method_62_code
def yX12_improveAll : MethodName := ⟨RX12, "improveAll", "()I"⟩
abbrev cX12_keeps : ByteArray := prog_14_method_63_code
def yX12_keeps : MethodName := ⟨RX12, "keeps", "()V"⟩
abbrev cX12_sets0 : ByteArray := prog_14_method_64_code
def yX12_sets0 : MethodName := ⟨RX12, "sets0", "(II)I"⟩
abbrev cX12_hold : ByteArray := prog_14_method_65_code
def yX12_hold : MethodName := ⟨RX12, "hold", "(II)I"⟩
abbrev cX12_free : ByteArray := prog_14_method_66_code
def yX12_free : MethodName := ⟨RX12, "free", "(I)I"⟩
abbrev cX12_weigh : ByteArray := prog_14_method_67_code
def yX12_weigh : MethodName := ⟨RX12, "weigh", "(III)I"⟩
abbrev cX12_pay : ByteArray := prog_14_method_68_code
def yX12_pay : MethodName := ⟨RX12, "pay", "(II)I"⟩
abbrev cX12_undo : ByteArray := prog_14_method_69_code
def yX12_undo : MethodName := ⟨RX12, "undo", "()I"⟩
abbrev cX12_image : ByteArray := prog_14_method_70_code
def yX12_image : MethodName := ⟨RX12, "image", "(I)Z"⟩
abbrev cX12_restore : ByteArray := prog_14_method_71_code
def yX12_restore : MethodName := ⟨RX12, "restore", "(I)Z"⟩
abbrev cX12_stopped : ByteArray := prog_14_method_72_code
def yX12_stopped : MethodName := ⟨RX12, "stopped", "(III)J"⟩
abbrev cX12_mean : ByteArray := prog_14_method_73_code
def yX12_mean : MethodName := ⟨RX12, "mean", "(I)V"⟩
abbrev cX12_choosesAt : ByteArray := prog_14_method_74_code
def yX12_choosesAt : MethodName := ⟨RX12, "choosesAt", "(I)V"⟩
abbrev cX12_within : ByteArray := prog_14_method_75_code
def yX12_within : MethodName := ⟨RX12, "within", "(III)J"⟩
abbrev cX12_aheadOf : ByteArray := prog_14_method_76_code
def yX12_aheadOf : MethodName := ⟨RX12, "aheadOf", "(I)I"⟩
abbrev cX12_all : ByteArray := prog_14_method_77_code
def yX12_all : MethodName := ⟨RX12, "all", "()I"⟩
abbrev cX12_forced : ByteArray := prog_14_method_78_code
def yX12_forced : MethodName := ⟨RX12, "forced", "(II)I"⟩
abbrev cX12_byBoth : ByteArray := prog_14_method_79_code
def yX12_byBoth : MethodName := ⟨RX12, "byBoth", "()V"⟩
abbrev cX12_from : ByteArray := prog_14_method_80_code
def yX12_from : MethodName := ⟨RX12, "from", "(I)I"⟩
abbrev cX12_ringOf : ByteArray := prog_14_method_81_code
def yX12_ringOf : MethodName := ⟨RX12, "ringOf", "(I)I"⟩
abbrev cX12_ring : ByteArray := prog_14_method_82_code
def yX12_ring : MethodName := ⟨RX12, "ring", "(I)I"⟩
abbrev cX12_rings : ByteArray := prog_14_method_83_code
def yX12_rings : MethodName := ⟨RX12, "rings", "()I"⟩
abbrev cX12_moves : ByteArray := prog_14_method_84_code
def yX12_moves : MethodName := ⟨RX12, "moves", "(II)J"⟩
abbrev cX12_paying : ByteArray := prog_14_method_85_code
def yX12_paying : MethodName := ⟨RX12, "paying", "()I"⟩
abbrev cX12_trap : ByteArray := prog_14_method_86_code
def yX12_trap : MethodName := ⟨RX12, "trap", "()I"⟩
abbrev cX12_surely : ByteArray := prog_14_method_87_code
def yX12_surely : MethodName := ⟨RX12, "surely", "()I"⟩
abbrev cX12_sure : ByteArray := prog_14_method_88_code
def yX12_sure : MethodName := ⟨RX12, "sure", "()I"⟩
abbrev cX12_soon : ByteArray := prog_14_method_89_code
def yX12_soon : MethodName := ⟨RX12, "soon", "(I)I"⟩
abbrev cX12_sets : ByteArray := prog_14_method_90_code
def yX12_sets : MethodName := ⟨RX12, "sets", "(II)I"⟩
abbrev cX12_rank : ByteArray := prog_14_method_91_code
def yX12_rank : MethodName := ⟨RX12, "rank", "(I)I"⟩
abbrev cX12_tells : ByteArray := prog_14_method_92_code
def yX12_tells : MethodName := ⟨RX12, "tells", "()Z"⟩
abbrev cX12_isAbove : ByteArray := prog_14_method_93_code
def yX12_isAbove : MethodName := ⟨RX12, "isAbove", "(I)Z"⟩
abbrev cX12_above : ByteArray := prog_14_method_94_code
def yX12_above : MethodName := ⟨RX12, "above", "()I"⟩
abbrev cX12_below : ByteArray := prog_14_method_95_code
def yX12_below : MethodName := ⟨RX12, "below", "()I"⟩
abbrev cX12_draw : ByteArray := prog_14_method_96_code
def yX12_draw : MethodName := ⟨RX12, "draw", "(I)I"⟩
abbrev cX12_drawnWay : ByteArray := prog_14_method_97_code
def yX12_drawnWay : MethodName := ⟨RX12, "drawnWay", "(I)I"⟩
abbrev cX12_playFrom : ByteArray := prog_14_method_98_code
def yX12_playFrom : MethodName := ⟨RX12, "playFrom", "(III)I"⟩
abbrev cX12_play : ByteArray := prog_14_method_99_code
def yX12_play : MethodName := ⟨RX12, "play", "(III)I"⟩
abbrev cX12_often : ByteArray := prog_14_method_100_code
def yX12_often : MethodName := ⟨RX12, "often", "(IIII)I"⟩
abbrev cX12_puts : ByteArray := prog_14_method_101_code
def yX12_puts : MethodName := ⟨RX12, "puts", "(I)V"⟩
abbrev cX12_putsWord : ByteArray := prog_14_method_102_code
def yX12_putsWord : MethodName := ⟨RX12, "putsWord", "(I)V"⟩
abbrev cX12_putsName : ByteArray := prog_14_method_103_code
def yX12_putsName : MethodName := ⟨RX12, "putsName", "(I)V"⟩
abbrev cX12_putsNumber : ByteArray := prog_14_method_104_code
def yX12_putsNumber : MethodName := ⟨RX12, "putsNumber", "(I)V"⟩
abbrev cX12_text : ByteArray := prog_14_method_105_code
def yX12_text : MethodName := ⟨RX12, "text", "()I"⟩
abbrev cX12_byteAt : ByteArray := prog_14_method_106_code
def yX12_byteAt : MethodName := ⟨RX12, "byteAt", "(I)I"⟩
abbrev cX12_count : ByteArray := prog_14_method_107_code
def yX12_count : MethodName := ⟨RX12, "count", "(I)I"⟩
def RJx145de : String := "java/io/Serializable"
def TJx145de : u_T := fun k => match k with
  | _ => ("", "", "", false)
def tyJx145de : Nat → FieldType := fun k => match k with
  | _ => .int
abbrev wsJx145de0 : List Cond := u_ws RJx145de TJx145de 0
theorem nmJx145de : ∀ a, a < 0 → ∀ b, b < 0 → a ≠ b → (TJx145de a).2.1 ≠ (TJx145de b).2.1 := by decide +kernel
theorem tyJx145de_ok : ∀ k, k < 0 → parseFieldDescriptor (TJx145de k).2.2.1 = some (tyJx145de k) := by decide +kernel
def RJx9f9b0 : String := "java/lang/CharSequence"
def TJx9f9b0 : u_T := fun k => match k with
  | _ => ("", "", "", false)
def tyJx9f9b0 : Nat → FieldType := fun k => match k with
  | _ => .int
abbrev wsJx9f9b00 : List Cond := u_ws RJx9f9b0 TJx9f9b0 0
theorem nmJx9f9b0 : ∀ a, a < 0 → ∀ b, b < 0 → a ≠ b → (TJx9f9b0 a).2.1 ≠ (TJx9f9b0 b).2.1 := by decide +kernel
theorem tyJx9f9b0_ok : ∀ k, k < 0 → parseFieldDescriptor (TJx9f9b0 k).2.2.1 = some (tyJx9f9b0 k) := by decide +kernel
def RJxb160c : String := "java/lang/Comparable"
def TJxb160c : u_T := fun k => match k with
  | _ => ("", "", "", false)
def tyJxb160c : Nat → FieldType := fun k => match k with
  | _ => .int
abbrev wsJxb160c0 : List Cond := u_ws RJxb160c TJxb160c 0
theorem nmJxb160c : ∀ a, a < 0 → ∀ b, b < 0 → a ≠ b → (TJxb160c a).2.1 ≠ (TJxb160c b).2.1 := by decide +kernel
theorem tyJxb160c_ok : ∀ k, k < 0 → parseFieldDescriptor (TJxb160c k).2.2.1 = some (tyJxb160c k) := by decide +kernel
def RJ0 : String := "java/lang/String"
def TJ0 : u_T := fun k => match k with
  | _ => ("", "", "", false)
def tyJ0 : Nat → FieldType := fun k => match k with
  | _ => .int
abbrev wsJ00 : List Cond := u_ws RJ0 TJ0 0
theorem nmJ0 : ∀ a, a < 0 → ∀ b, b < 0 → a ≠ b → (TJ0 a).2.1 ≠ (TJ0 b).2.1 := by decide +kernel
theorem tyJ0_ok : ∀ k, k < 0 → parseFieldDescriptor (TJ0 k).2.2.1 = some (tyJ0 k) := by decide +kernel
abbrev cJ0_length_8abf5 : ByteArray := prog_20_method_54_code
def yJ0_length_8abf5 : MethodName := ⟨RJ0, "length", "()I"⟩
abbrev cJ0_charAt_5068e : ByteArray := prog_20_method_56_code
def yJ0_charAt_5068e : MethodName := ⟨RJ0, "charAt", "(I)C"⟩
abbrev cJ0_coder_7d493 : ByteArray := prog_20_method_152_code
def yJ0_coder_7d493 : MethodName := ⟨RJ0, "coder", "()B"⟩
abbrev cJ0_isLatin1_aae02 : ByteArray := prog_20_method_154_code
def yJ0_isLatin1_aae02 : MethodName := ⟨RJ0, "isLatin1", "()Z"⟩
abbrev cJ0_checkIndex_df160 : ByteArray := prog_20_method_155_code
def yJ0_checkIndex_df160 : MethodName := ⟨RJ0, "checkIndex", "(II)V"⟩
def RJ1 : String := "java/lang/StringLatin1"
def TJ1 : u_T := fun k => match k with
  | _ => ("", "", "", false)
def tyJ1 : Nat → FieldType := fun k => match k with
  | _ => .int
abbrev wsJ10 : List Cond := u_ws RJ1 TJ1 0
theorem nmJ1 : ∀ a, a < 0 → ∀ b, b < 0 → a ≠ b → (TJ1 a).2.1 ≠ (TJ1 b).2.1 := by decide +kernel
theorem tyJ1_ok : ∀ k, k < 0 → parseFieldDescriptor (TJ1 k).2.2.1 = some (tyJ1 k) := by decide +kernel
abbrev cJ1_charAt_3b067 : ByteArray := prog_21_method_2_code
def yJ1_charAt_3b067 : MethodName := ⟨RJ1, "charAt", "([BI)C"⟩
def RJ2 : String := "java/lang/StringUTF16"
def TJ2 : u_T := fun k => match k with
  | _ => ("", "", "", false)
def tyJ2 : Nat → FieldType := fun k => match k with
  | _ => .int
abbrev wsJ20 : List Cond := u_ws RJ2 TJ2 0
theorem nmJ2 : ∀ a, a < 0 → ∀ b, b < 0 → a ≠ b → (TJ2 a).2.1 ≠ (TJ2 b).2.1 := by decide +kernel
theorem tyJ2_ok : ∀ k, k < 0 → parseFieldDescriptor (TJ2 k).2.2.1 = some (tyJ2 k) := by decide +kernel
abbrev cJ2_getChar_3b067 : ByteArray := prog_22_method_5_code
def yJ2_getChar_3b067 : MethodName := ⟨RJ2, "getChar", "([BI)C"⟩
abbrev cJ2_length_9d52b : ByteArray := prog_22_method_6_code
def yJ2_length_9d52b : MethodName := ⟨RJ2, "length", "([B)I"⟩
abbrev cJ2_charAt_3b067 : ByteArray := prog_22_method_83_code
def yJ2_charAt_3b067 : MethodName := ⟨RJ2, "charAt", "([BI)C"⟩
abbrev cJ2_checkIndex_2214a : ByteArray := prog_22_method_91_code
def yJ2_checkIndex_2214a : MethodName := ⟨RJ2, "checkIndex", "(I[B)V"⟩
def RJ10 : String := "java/lang/System"
def TJ10 : u_T := fun k => match k with
  | _ => ("", "", "", false)
def tyJ10 : Nat → FieldType := fun k => match k with
  | _ => .int
abbrev wsJ100 : List Cond := u_ws RJ10 TJ10 0
theorem nmJ10 : ∀ a, a < 0 → ∀ b, b < 0 → a ≠ b → (TJ10 a).2.1 ≠ (TJ10 b).2.1 := by decide +kernel
theorem tyJ10_ok : ∀ k, k < 0 → parseFieldDescriptor (TJ10 k).2.2.1 = some (tyJ10 k) := by decide +kernel
def RJxfd54e : String := "java/lang/constant/Constable"
def TJxfd54e : u_T := fun k => match k with
  | _ => ("", "", "", false)
def tyJxfd54e : Nat → FieldType := fun k => match k with
  | _ => .int
abbrev wsJxfd54e0 : List Cond := u_ws RJxfd54e TJxfd54e 0
theorem nmJxfd54e : ∀ a, a < 0 → ∀ b, b < 0 → a ≠ b → (TJxfd54e a).2.1 ≠ (TJxfd54e b).2.1 := by decide +kernel
theorem tyJxfd54e_ok : ∀ k, k < 0 → parseFieldDescriptor (TJxfd54e k).2.2.1 = some (tyJxfd54e k) := by decide +kernel
def RJx3cf43 : String := "java/lang/constant/ConstantDesc"
def TJx3cf43 : u_T := fun k => match k with
  | _ => ("", "", "", false)
def tyJx3cf43 : Nat → FieldType := fun k => match k with
  | _ => .int
abbrev wsJx3cf430 : List Cond := u_ws RJx3cf43 TJx3cf43 0
theorem nmJx3cf43 : ∀ a, a < 0 → ∀ b, b < 0 → a ≠ b → (TJx3cf43 a).2.1 ≠ (TJx3cf43 b).2.1 := by decide +kernel
theorem tyJx3cf43_ok : ∀ k, k < 0 → parseFieldDescriptor (TJx3cf43 k).2.2.1 = some (tyJx3cf43 k) := by decide +kernel
def RJ3 : String := "jdk/internal/util/Preconditions"
def TJ3 : u_T := fun k => match k with
  | _ => ("", "", "", false)
def tyJ3 : Nat → FieldType := fun k => match k with
  | _ => .int
abbrev wsJ30 : List Cond := u_ws RJ3 TJ3 0
theorem nmJ3 : ∀ a, a < 0 → ∀ b, b < 0 → a ≠ b → (TJ3 a).2.1 ≠ (TJ3 b).2.1 := by decide +kernel
theorem tyJ3_ok : ∀ k, k < 0 → parseFieldDescriptor (TJ3 k).2.2.1 = some (tyJ3 k) := by decide +kernel
abbrev cJ3_checkIndex_8e157 : ByteArray := prog_28_method_11_code
def yJ3_checkIndex_8e157 : MethodName := ⟨RJ3, "checkIndex", "(IILjava/util/function/BiFunction;)I"⟩
def RL : String := "ChanceRingsLaw"
abbrev cL_node : ByteArray := method_3_code
def yL_node : MethodName := ⟨RL, "node", "(LChanceRings;II[J)I"⟩
abbrev cL_way : ByteArray := method_4_code
def yL_way : MethodName := ⟨RL, "way", "(LChanceRings;III[J)I"⟩
abbrev cL_worth : ByteArray := method_5_code
def yL_worth : MethodName := ⟨RL, "worth", "(LChanceRings;II[J)I"⟩
abbrev cL_left : ByteArray := method_6_code
def yL_left : MethodName := ⟨RL, "left", "(LChanceRings;II[J)I"⟩
abbrev cL_stopped : ByteArray := method_7_code
def yL_stopped : MethodName := ⟨RL, "stopped", "(LChanceRings;III[J)I"⟩
abbrev cL_within : ByteArray := method_8_code
def yL_within : MethodName := ⟨RL, "within", "(LChanceRings;III[J)I"⟩
abbrev cL_moves : ByteArray := method_9_code
def yL_moves : MethodName := ⟨RL, "moves", "(LChanceRings;II[J)I"⟩
abbrev cL_law : ByteArray := code
def yL_law : MethodName := ⟨RL, "law", "([I)Z"⟩
abbrev vwCl : List vw_C := [(RX0, TX0, 3), (RX1, TX1, 3), (RX2, TX2, 8), (RX3, TX3, 10), (RX4, TX4, 10), (RX5, TX5, 1), (RX6, TX6, 4), (RX7, TX7, 5), (RX8, TX8, 2), (RX9, TX9, 2), (RX10, TX10, 2), (RX11, TX11, 18), (RX12, TX12, 35)]
/-- the good words of the tables: every contract's words -/
def wsL_law : List Cond := lw_tbl.filter goodWord
theorem wsL_law_in : ∀ w ∈ wsL_law, w ∈ lw_tbl := fun w h => (List.mem_filter.mp h).1
/-- the array classes: ints, longs, bytes, booleans, nets, rows of longs -/
abbrev TY (g : Nat → ClassId) : List (ClassId × FieldType) := [(g 0, .int), (g 1, .long), (g 2, .byte), (g 3, .boolean), (g 4, .object RX2), (g 5, .array .long)]
theorem tz_blS {D : va_G} {av : List Value} {w : va_W} {tys : List (ClassId × FieldType)} : FrameBlind (va_Pc av (fun U => va_P D vwCl w U.heap ∧ va_K D vwCl tys U)) := fun a U g mk q => by
  obtain ⟨q0, qP, qK⟩ := q
  exact ⟨q0, qP, va_K.moved (u := U) (U := U.calling g mk a) (Vm.Alike.refl U.vm) qK⟩
theorem tz_preS {D : va_G} {s : State} {H : Heap} {w : va_W} {tys : List (ClassId × FieldType)} {av : List Value} (hP : va_P D vwCl w H) (hK : va_K D vwCl tys s) : ∀ U : State, U.heap = H → s.WarmedH U.vm → va_Pc av (fun U => va_P D vwCl w U.heap ∧ va_K D vwCl tys U) av.toArray U := fun U hU hW => ⟨rfl, by rw [hU]; exact hP, va_K.moved hW.alike hK⟩
theorem tz_blQ {D : va_G} {av : List Value} {w : va_W} {tys : List (ClassId × FieldType)} {sz : Nat} : FrameBlind (va_Pc av (fun U => U.heap.size = sz ∧ va_P D vwCl w U.heap ∧ va_K D vwCl tys U ∧ va_D (fun _ => True) w)) := fun a U g mk q => by
  obtain ⟨q0, q1, qP, qK, qD⟩ := q
  exact ⟨q0, q1, qP, va_K.moved (u := U) (U := U.calling g mk a) (Vm.Alike.refl U.vm) qK, qD⟩
theorem tz_preQ {D : va_G} {s : State} {H : Heap} {w : va_W} {tys : List (ClassId × FieldType)} {av : List Value} {A : Nat → Prop} (hP : va_P D vwCl w H) (hK : va_K D vwCl tys s) (hD : va_D A w) : ∀ U : State, U.heap = H → s.WarmedH U.vm → va_Pc av (fun U => U.heap.size = H.size ∧ va_P D vwCl w U.heap ∧ va_K D vwCl tys U ∧ va_D (fun _ => True) w) av.toArray U := fun U hU hW => ⟨rfl, by rw [hU], by rw [hU]; exact hP, va_K.moved hW.alike hK, hD.weaken (fun _ _ _ _ => trivial)⟩
theorem tz_blQZ {D : va_G} {av : List Value} {w : va_W} {tys : List (ClassId × FieldType)} {sz : Nat} {Z : State → Prop} (hZ : ∀ u U : State, u.vm = U.vm → Z u → Z U) : FrameBlind (va_Pc av (fun U => U.heap.size = sz ∧ va_P D vwCl w U.heap ∧ va_K D vwCl tys U ∧ va_D (fun _ => True) w ∧ Z U)) := fun a U g mk q => by
  obtain ⟨q0, q1, qP, qK, qD, qZ⟩ := q
  exact ⟨q0, q1, qP, va_K.moved (u := U) (U := U.calling g mk a) (Vm.Alike.refl U.vm) qK, qD, hZ U (U.calling g mk a) rfl qZ⟩
theorem tz_preQZ {D : va_G} {s : State} {H : Heap} {w : va_W} {tys : List (ClassId × FieldType)} {av : List Value} {A : Nat → Prop} {Z : State → Prop} (hP : va_P D vwCl w H) (hK : va_K D vwCl tys s) (hD : va_D A w) (hZ : ∀ U : State, s.WarmedH U.vm → Z U) : ∀ U : State, U.heap = H → s.WarmedH U.vm → va_Pc av (fun U => U.heap.size = H.size ∧ va_P D vwCl w U.heap ∧ va_K D vwCl tys U ∧ va_D (fun _ => True) w ∧ Z U) av.toArray U := fun U hU hW => ⟨rfl, by rw [hU], by rw [hU]; exact hP, va_K.moved hW.alike hK, hD.weaken (fun _ _ _ _ => trivial), hZ U hW⟩
theorem tz_nilP {D : va_G} {H : Heap} : va_P D vwCl [] H := fun k q h => by simp at h
theorem tz_nilD {A : Nat → Prop} : va_D A [] := ⟨fun i j p q h => by simp at h, fun k q h => by simp at h⟩
theorem tz_in {i : Int32} {n : Nat} (h : (decide (i < 0) || decide (n ≤ i.toNatClampNeg)) = false) : vp_in i n := by
  intro q
  rcases q with q | q
  · simp [q] at h
  · simp [q] at h
section TZ
variable {p : Program} {l : Launch} {e : Env} {R : Room} {s : State} {m : MethodId} {args : Array Value} {below : List Frame} {meth : Method} {c : Code} {H : Heap} {locs : List Loc} {cells slots : Nat} {Q : State → Prop} {pc : Nat} {ls : Array Slot} {rest : List Value}
theorem tz_i {x y : Int32} (h : x = y) (k : W p l e R s m args below meth c H locs cells slots Q (F0 m pc ls (.int y :: rest))) : W p l e R s m args below meth c H locs cells slots Q (F0 m pc ls (.int x :: rest)) := by
  subst h
  exact k
theorem tz_l {x y : Int64} (h : x = y) (k : W p l e R s m args below meth c H locs cells slots Q (F0 m pc ls (.long y :: rest))) : W p l e R s m args below meth c H locs cells slots Q (F0 m pc ls (.long x :: rest)) := by
  subst h
  exact k
theorem tz_v {x y : Value} (h : x = y) (k : W p l e R s m args below meth c H locs cells slots Q (F0 m pc ls (y :: rest))) : W p l e R s m args below meth c H locs cells slots Q (F0 m pc ls (x :: rest)) := by
  subst h
  exact k
theorem va_ald2 {cc : ByteArray} {D : va_G} {cl : List vw_C} {ws : va_W} {tys : List (ClassId × FieldType)} {a : Nat} (hexec : p.tables.exec = Jvm.exec) (hb : c.code = cc) (hK : va_K D cl tys s) (hP : va_P D cl ws H) (q0 t0 : Nat) {cA : ClassId} {ty : FieldType} {n : Nat} {f : Nat → Option Nat} (ha : ws[q0]? = some (a, .inl (cA, n, .inr (.inr (.inr (.inr f)))))) (ht : tys[t0]? = some (cA, .array ty)) {i : Int32} (hin : vp_in i n) (hdg : decode cc pc = .ok (.aaload, 1))
    (kk : W p l e R s m args below meth c H locs cells slots Q (F0 m (pc + 1) ls (va_rf (f i.toNatClampNeg) :: rest))) : W p l e R s m args below meth c H locs cells slots Q (F0 m pc ls (.int i :: .ref a :: rest)) := by
  have hlt : i.toNatClampNeg < n := Nat.not_le.mp fun q => hin (Or.inr q)
  exact W.aald (v := va_rf (f i.toNatClampNeg)) (ty := .array ty) hexec hb (hP q0 _ ha) ((hK.2 t0 _ ht).1 n (fun j => va_rf (f j))) rfl (fun q => by cases q) (by show ¬ (i < 0 ∨ (arrV _ _ _).slots.size ≤ _); rw [arrV_size]; exact hin) (by show (arrV _ _ _).slots[_]? = _; rw [arrV_read _ _ hlt]) rfl rfl hdg kk
end TZ
theorem tz_row {r : Nat → Nat} {n k : Nat} {i : Int32} (hi : i.toNatClampNeg = k) (hk : k < n) : va_rf ((fun i => if i < n then some (r i) else none) i.toNatClampNeg) = .ref (r k) := by
  subst hi
  show va_rf (if _ < n then _ else _) = _
  rw [if_pos hk]
  rfl
theorem tz_big {x : Int32} {n : Nat} (h0 : ¬ x < 0) (h : ¬ vp_in x n) (hn : n < 2 ^ 31) : nI n ≤ x := by
  rw [vp_in_iff] at h
  rw [Int32.lt_iff_toInt_lt] at h0
  rw [Int32.le_iff_toInt_le, nI_toInt hn]
  have e : (0 : Int32).toInt = 0 := by decide
  omega
theorem tz_gt1 {x : Int32} (h0 : ¬ x < 0) (h : ¬ vp_in x 2) : 1 < x := Int32.lt_of_lt_of_le (by decide) (tz_big h0 h (by decide))
theorem tz_nlt2 {x : Int32} (h0 : ¬ x < 0) (h : ¬ vp_in x 2) : ¬ x < 2 := Int32.not_lt.mpr (tz_big h0 h (by decide))
theorem tz_gt0 {x : Int32} (h0 : ¬ x < 0) (h : ¬ x = 0) : 0 < x := Int32.lt_of_le_of_ne (Int32.not_lt.mp h0) (fun e => h e.symm)
theorem tz_gt2 {x : Int32} (h0 : ¬ x < 1) (h : ¬ x = 1 ∧ ¬ x = 2) : 2 < x := by
  rw [Int32.lt_iff_toInt_lt] at h0 ⊢
  have e1 : (1 : Int32).toInt = 1 := by decide
  have e2 : (2 : Int32).toInt = 2 := by decide
  have n1 : ¬ x.toInt = 1 := fun q => h.1 (Int32.toInt_inj.mp (q.trans e1.symm))
  have n2 : ¬ x.toInt = 2 := fun q => h.2 (Int32.toInt_inj.mp (q.trans e2.symm))
  omega
theorem tz_c2 (x : Int32) : x = 0 ∨ x = 1 ∨ ¬ vp_in x 2 := by
  by_cases h : vp_in x 2
  · obtain ⟨j, hj, rfl⟩ := vp_in_of h (by decide)
    rcases (show j = 0 ∨ j = 1 by omega) with rfl | rfl
    · exact Or.inl rfl
    · exact Or.inr (Or.inl rfl)
  · exact Or.inr (Or.inr h)
theorem tz_c3 (x : Int32) : x = 0 ∨ x = 1 ∨ x = 2 ∨ ¬ vp_in x 3 := by
  by_cases h : vp_in x 3
  · obtain ⟨j, hj, rfl⟩ := vp_in_of h (by decide)
    rcases (show j = 0 ∨ j = 1 ∨ j = 2 by omega) with rfl | rfl | rfl
    · exact Or.inl rfl
    · exact Or.inr (Or.inl rfl)
    · exact Or.inr (Or.inr (Or.inl rfl))
  · exact Or.inr (Or.inr (Or.inr h))
theorem tz_c8 (x : Int32) : x = 0 ∨ x = 1 ∨ x = 2 ∨ x = 3 ∨ x = 4 ∨ x = 5 ∨ x = 6 ∨ x = 7 ∨ ¬ vp_in x 8 := by
  by_cases h : vp_in x 8
  · obtain ⟨j, hj, rfl⟩ := vp_in_of h (by decide)
    rcases (show j = 0 ∨ j = 1 ∨ j = 2 ∨ j = 3 ∨ j = 4 ∨ j = 5 ∨ j = 6 ∨ j = 7 by omega) with rfl | rfl | rfl | rfl | rfl | rfl | rfl | rfl
    · exact Or.inl rfl
    · exact Or.inr (Or.inl rfl)
    · exact Or.inr (Or.inr (Or.inl rfl))
    · exact Or.inr (Or.inr (Or.inr (Or.inl rfl)))
    · exact Or.inr (Or.inr (Or.inr (Or.inr (Or.inl rfl))))
    · exact Or.inr (Or.inr (Or.inr (Or.inr (Or.inr (Or.inl rfl)))))
    · exact Or.inr (Or.inr (Or.inr (Or.inr (Or.inr (Or.inr (Or.inl rfl))))))
    · exact Or.inr (Or.inr (Or.inr (Or.inr (Or.inr (Or.inr (Or.inr (Or.inl rfl)))))))
  · exact Or.inr (Or.inr (Or.inr (Or.inr (Or.inr (Or.inr (Or.inr (Or.inr h)))))))
theorem tz_cp (x : Int32) : x = 1 ∨ x = 2 ∨ (¬ x = 1 ∧ ¬ x = 2) := by
  by_cases h : x = 1
  · exact Or.inl h
  · by_cases h2 : x = 2
    · exact Or.inr (Or.inl h2)
    · exact Or.inr (Or.inr ⟨h, h2⟩)
theorem tz_out {x : Int32} {n : Nat} (h : ¬ vp_in x n) : x.toInt < 0 ∨ ((n : Int) - 1) < x.toInt := by
  rw [vp_in_iff] at h
  omega
theorem tz_ne {x y : Int32} {n : Nat} (h : ¬ vp_in x n) (hy : vp_in y n) : ¬ x = y := fun e => h (by rw [e]; exact hy)
theorem tz_in_mono {x : Int32} {a b : Nat} (h : vp_in x a) (hab : a ≤ b) : vp_in x b := by
  rw [vp_in_iff] at h ⊢
  omega
theorem tz_eq {P : Prop} {a b r1 r2 : Int32} (h1 : (P → r1 = a) ∧ (¬ P → r1 = b)) (h2 : (P → r2 = a) ∧ (¬ P → r2 = b)) : r1 = r2 := by
  by_cases h : P
  · rw [h1.1 h, h2.1 h]
  · rw [h1.2 h, h2.2 h]
theorem tz_good : ∀ w ∈ wsL_law, goodWord w = true := fun w h => (List.mem_filter.mp h).2
theorem tz_gL : GoodIn wsL_law wsL_law := fun w h => ⟨h, good_of_word (tz_good w h)⟩
theorem tz_g1 {ws : List Cond} (h : ∀ w ∈ ws, w ∈ wsL_law) : GoodIn wsL_law ws := fun w hw => tz_gL w (h w hw)
theorem tz_gC {c : Cond} (h : c ∈ wsL_law) : GoodIn wsL_law (c :: wsL_law) := fun w hw => (List.mem_cons.mp hw).elim (fun e => by rw [e]; exact tz_gL _ h) (fun e => tz_gL _ e)
theorem tz_gV {own C : String} {i : Nat} {y : MethodName} {c : Cond} (h1 : Cond.methodLink own i y ∈ wsL_law) (h2 : Cond.instanceMethod y ∈ wsL_law) (h3 : Cond.selects C y y ∈ wsL_law) (h4 : Cond.initialized C ∈ wsL_law) (h5 : c ∈ wsL_law) : GoodIn wsL_law (wsV own i C y (c :: wsL_law)) := by
  refine goodIn_app (tz_g1 ?_) (tz_gC h5)
  intro w hw
  simp only [List.mem_cons, List.not_mem_nil, or_false] at hw
  rcases hw with e | e | e | e <;> (rw [e]; assumption)
theorem tz_gS {own : String} {i : Nat} {y : MethodName} {c : Cond} (h1 : Cond.methodLink own i y ∈ wsL_law) (h2 : Cond.static y ∈ wsL_law) (h3 : Cond.initialized y.cls ∈ wsL_law) (h5 : c ∈ wsL_law) : GoodIn wsL_law (va_wsS own i y (c :: wsL_law)) := by
  refine goodIn_app (tz_g1 ?_) (tz_gC h5)
  intro w hw
  simp only [List.mem_cons, List.not_mem_nil, or_false] at hw
  rcases hw with e | e | e <;> (rw [e]; assumption)
theorem tseg_1 {w : Cond} (hg : goodWord w = true) (h : w ∈ tables_1_1) : w ∈ wsL_law := List.mem_filter.mpr ⟨List.mem_append_right _ (List.mem_append_left _ h), hg⟩
theorem tseg_2 {w : Cond} (hg : goodWord w = true) (h : w ∈ tables_1_2) : w ∈ wsL_law := List.mem_filter.mpr ⟨List.mem_append_right _ (List.mem_append_right _ (List.mem_append_left _ h)), hg⟩
theorem tseg_3 {w : Cond} (hg : goodWord w = true) (h : w ∈ tables_1_3) : w ∈ wsL_law := List.mem_filter.mpr ⟨List.mem_append_right _ (List.mem_append_right _ (List.mem_append_right _ (List.mem_append_left _ h))), hg⟩
theorem tseg_4 {w : Cond} (hg : goodWord w = true) (h : w ∈ tables_1_4) : w ∈ wsL_law := List.mem_filter.mpr ⟨List.mem_append_right _ (List.mem_append_right _ (List.mem_append_right _ (List.mem_append_right _ (List.mem_append_left _ h)))), hg⟩
theorem tseg_5 {w : Cond} (hg : goodWord w = true) (h : w ∈ tables_1_5) : w ∈ wsL_law := List.mem_filter.mpr ⟨List.mem_append_right _ (List.mem_append_right _ (List.mem_append_right _ (List.mem_append_right _ (List.mem_append_right _ (List.mem_append_left _ h))))), hg⟩
theorem tseg_6 {w : Cond} (hg : goodWord w = true) (h : w ∈ tables_1_6) : w ∈ wsL_law := List.mem_filter.mpr ⟨List.mem_append_right _ (List.mem_append_right _ (List.mem_append_right _ (List.mem_append_right _ (List.mem_append_right _ (List.mem_append_right _ (List.mem_append_left _ h)))))), hg⟩
theorem tseg_7 {w : Cond} (hg : goodWord w = true) (h : w ∈ tables_1_7) : w ∈ wsL_law := List.mem_filter.mpr ⟨List.mem_append_right _ (List.mem_append_right _ (List.mem_append_right _ (List.mem_append_right _ (List.mem_append_right _ (List.mem_append_right _ (List.mem_append_right _ (h))))))), hg⟩
theorem fX0_0 : u_lay RX0 TX0 0 ∈ wsL_law := tseg_2 (by decide +kernel) (List.mem_of_getElem? (i := 54) (by decide +kernel))
theorem fX0_1 : u_lay RX0 TX0 1 ∈ wsL_law := tseg_2 (by decide +kernel) (List.mem_of_getElem? (i := 56) (by decide +kernel))
theorem fX0_2 : u_lay RX0 TX0 2 ∈ wsL_law := tseg_2 (by decide +kernel) (List.mem_of_getElem? (i := 58) (by decide +kernel))
theorem inlX0 : ∀ w ∈ wsX00, w ∈ wsL_law := by
  intro w h
  obtain ⟨k, hk, rfl⟩ := List.mem_map.mp h
  have hk := List.mem_range.mp hk
  rcases (show k = 0 ∨ k = 1 ∨ k = 2 by omega) with rfl | rfl | rfl
  · exact fX0_0
  · exact fX0_1
  · exact fX0_2
theorem fX1_0 : u_lay RX1 TX1 0 ∈ wsL_law := tseg_2 (by decide +kernel) (List.mem_of_getElem? (i := 43) (by decide +kernel))
theorem fX1_1 : u_lay RX1 TX1 1 ∈ wsL_law := tseg_2 (by decide +kernel) (List.mem_of_getElem? (i := 45) (by decide +kernel))
theorem fX1_2 : u_lay RX1 TX1 2 ∈ wsL_law := tseg_2 (by decide +kernel) (List.mem_of_getElem? (i := 47) (by decide +kernel))
theorem inlX1 : ∀ w ∈ wsX10, w ∈ wsL_law := by
  intro w h
  obtain ⟨k, hk, rfl⟩ := List.mem_map.mp h
  have hk := List.mem_range.mp hk
  rcases (show k = 0 ∨ k = 1 ∨ k = 2 by omega) with rfl | rfl | rfl
  · exact fX1_0
  · exact fX1_1
  · exact fX1_2
theorem fX2_0 : u_lay RX2 TX2 0 ∈ wsL_law := tseg_1 (by decide +kernel) (List.mem_of_getElem? (i := 92) (by decide +kernel))
theorem fX2_1 : u_lay RX2 TX2 1 ∈ wsL_law := tseg_1 (by decide +kernel) (List.mem_of_getElem? (i := 94) (by decide +kernel))
theorem fX2_2 : u_lay RX2 TX2 2 ∈ wsL_law := tseg_1 (by decide +kernel) (List.mem_of_getElem? (i := 96) (by decide +kernel))
theorem fX2_3 : u_lay RX2 TX2 3 ∈ wsL_law := tseg_1 (by decide +kernel) (List.mem_of_getElem? (i := 98) (by decide +kernel))
theorem fX2_4 : u_lay RX2 TX2 4 ∈ wsL_law := tseg_1 (by decide +kernel) (List.mem_of_getElem? (i := 100) (by decide +kernel))
theorem fX2_5 : u_lay RX2 TX2 5 ∈ wsL_law := tseg_1 (by decide +kernel) (List.mem_of_getElem? (i := 102) (by decide +kernel))
theorem fX2_6 : u_lay RX2 TX2 6 ∈ wsL_law := tseg_1 (by decide +kernel) (List.mem_of_getElem? (i := 104) (by decide +kernel))
theorem fX2_7 : u_lay RX2 TX2 7 ∈ wsL_law := tseg_1 (by decide +kernel) (List.mem_of_getElem? (i := 106) (by decide +kernel))
theorem inlX2 : ∀ w ∈ wsX20, w ∈ wsL_law := by
  intro w h
  obtain ⟨k, hk, rfl⟩ := List.mem_map.mp h
  have hk := List.mem_range.mp hk
  rcases (show k = 0 ∨ k = 1 ∨ k = 2 ∨ k = 3 ∨ k = 4 ∨ k = 5 ∨ k = 6 ∨ k = 7 by omega) with rfl | rfl | rfl | rfl | rfl | rfl | rfl | rfl
  · exact fX2_0
  · exact fX2_1
  · exact fX2_2
  · exact fX2_3
  · exact fX2_4
  · exact fX2_5
  · exact fX2_6
  · exact fX2_7
theorem fX3_0 : u_lay RX3 TX3 0 ∈ wsL_law := tseg_2 (by decide +kernel) (List.mem_of_getElem? (i := 117) (by decide +kernel))
theorem fX3_1 : u_lay RX3 TX3 1 ∈ wsL_law := tseg_2 (by decide +kernel) (List.mem_of_getElem? (i := 119) (by decide +kernel))
theorem fX3_2 : u_lay RX3 TX3 2 ∈ wsL_law := tseg_2 (by decide +kernel) (List.mem_of_getElem? (i := 121) (by decide +kernel))
theorem fX3_3 : u_lay RX3 TX3 3 ∈ wsL_law := tseg_2 (by decide +kernel) (List.mem_of_getElem? (i := 123) (by decide +kernel))
theorem fX3_4 : u_lay RX3 TX3 4 ∈ wsL_law := tseg_2 (by decide +kernel) (List.mem_of_getElem? (i := 125) (by decide +kernel))
theorem fX3_5 : u_lay RX3 TX3 5 ∈ wsL_law := tseg_2 (by decide +kernel) (List.mem_of_getElem? (i := 127) (by decide +kernel))
theorem fX3_6 : u_lay RX3 TX3 6 ∈ wsL_law := tseg_2 (by decide +kernel) (List.mem_of_getElem? (i := 129) (by decide +kernel))
theorem fX3_7 : u_lay RX3 TX3 7 ∈ wsL_law := tseg_2 (by decide +kernel) (List.mem_of_getElem? (i := 131) (by decide +kernel))
theorem fX3_8 : u_lay RX3 TX3 8 ∈ wsL_law := tseg_2 (by decide +kernel) (List.mem_of_getElem? (i := 133) (by decide +kernel))
theorem fX3_9 : u_lay RX3 TX3 9 ∈ wsL_law := tseg_2 (by decide +kernel) (List.mem_of_getElem? (i := 135) (by decide +kernel))
theorem inlX3 : ∀ w ∈ wsX30, w ∈ wsL_law := by
  intro w h
  obtain ⟨k, hk, rfl⟩ := List.mem_map.mp h
  have hk := List.mem_range.mp hk
  rcases (show k = 0 ∨ k = 1 ∨ k = 2 ∨ k = 3 ∨ k = 4 ∨ k = 5 ∨ k = 6 ∨ k = 7 ∨ k = 8 ∨ k = 9 by omega) with rfl | rfl | rfl | rfl | rfl | rfl | rfl | rfl | rfl | rfl
  · exact fX3_0
  · exact fX3_1
  · exact fX3_2
  · exact fX3_3
  · exact fX3_4
  · exact fX3_5
  · exact fX3_6
  · exact fX3_7
  · exact fX3_8
  · exact fX3_9
theorem fX4_0 : u_lay RX4 TX4 0 ∈ wsL_law := tseg_1 (by decide +kernel) (List.mem_of_getElem? (i := 186) (by decide +kernel))
theorem fX4_1 : u_lay RX4 TX4 1 ∈ wsL_law := tseg_1 (by decide +kernel) (List.mem_of_getElem? (i := 188) (by decide +kernel))
theorem fX4_2 : u_lay RX4 TX4 2 ∈ wsL_law := tseg_1 (by decide +kernel) (List.mem_of_getElem? (i := 190) (by decide +kernel))
theorem fX4_3 : u_lay RX4 TX4 3 ∈ wsL_law := tseg_1 (by decide +kernel) (List.mem_of_getElem? (i := 192) (by decide +kernel))
theorem fX4_4 : u_lay RX4 TX4 4 ∈ wsL_law := tseg_1 (by decide +kernel) (List.mem_of_getElem? (i := 194) (by decide +kernel))
theorem fX4_5 : u_lay RX4 TX4 5 ∈ wsL_law := tseg_1 (by decide +kernel) (List.mem_of_getElem? (i := 196) (by decide +kernel))
theorem fX4_6 : u_lay RX4 TX4 6 ∈ wsL_law := tseg_1 (by decide +kernel) (List.mem_of_getElem? (i := 198) (by decide +kernel))
theorem fX4_7 : u_lay RX4 TX4 7 ∈ wsL_law := tseg_1 (by decide +kernel) (List.mem_of_getElem? (i := 200) (by decide +kernel))
theorem fX4_8 : u_lay RX4 TX4 8 ∈ wsL_law := tseg_1 (by decide +kernel) (List.mem_of_getElem? (i := 202) (by decide +kernel))
theorem fX4_9 : u_lay RX4 TX4 9 ∈ wsL_law := tseg_1 (by decide +kernel) (List.mem_of_getElem? (i := 204) (by decide +kernel))
theorem inlX4 : ∀ w ∈ wsX40, w ∈ wsL_law := by
  intro w h
  obtain ⟨k, hk, rfl⟩ := List.mem_map.mp h
  have hk := List.mem_range.mp hk
  rcases (show k = 0 ∨ k = 1 ∨ k = 2 ∨ k = 3 ∨ k = 4 ∨ k = 5 ∨ k = 6 ∨ k = 7 ∨ k = 8 ∨ k = 9 by omega) with rfl | rfl | rfl | rfl | rfl | rfl | rfl | rfl | rfl | rfl
  · exact fX4_0
  · exact fX4_1
  · exact fX4_2
  · exact fX4_3
  · exact fX4_4
  · exact fX4_5
  · exact fX4_6
  · exact fX4_7
  · exact fX4_8
  · exact fX4_9
theorem fX5_0 : u_lay RX5 TX5 0 ∈ wsL_law := tseg_2 (by decide +kernel) (List.mem_of_getElem? (i := 14) (by decide +kernel))
theorem inlX5 : ∀ w ∈ wsX50, w ∈ wsL_law := by
  intro w h
  obtain ⟨k, hk, rfl⟩ := List.mem_map.mp h
  have hk := List.mem_range.mp hk
  obtain rfl : k = 0 := by omega
  exact fX5_0
theorem fX6_0 : u_lay RX6 TX6 0 ∈ wsL_law := tseg_2 (by decide +kernel) (List.mem_of_getElem? (i := 66) (by decide +kernel))
theorem fX6_1 : u_lay RX6 TX6 1 ∈ wsL_law := tseg_2 (by decide +kernel) (List.mem_of_getElem? (i := 68) (by decide +kernel))
theorem fX6_2 : u_lay RX6 TX6 2 ∈ wsL_law := tseg_2 (by decide +kernel) (List.mem_of_getElem? (i := 70) (by decide +kernel))
theorem fX6_3 : u_lay RX6 TX6 3 ∈ wsL_law := tseg_2 (by decide +kernel) (List.mem_of_getElem? (i := 72) (by decide +kernel))
theorem inlX6 : ∀ w ∈ wsX60, w ∈ wsL_law := by
  intro w h
  obtain ⟨k, hk, rfl⟩ := List.mem_map.mp h
  have hk := List.mem_range.mp hk
  rcases (show k = 0 ∨ k = 1 ∨ k = 2 ∨ k = 3 by omega) with rfl | rfl | rfl | rfl
  · exact fX6_0
  · exact fX6_1
  · exact fX6_2
  · exact fX6_3
theorem fX7_0 : u_lay RX7 TX7 0 ∈ wsL_law := tseg_1 (by decide +kernel) (List.mem_of_getElem? (i := 221) (by decide +kernel))
theorem fX7_1 : u_lay RX7 TX7 1 ∈ wsL_law := tseg_1 (by decide +kernel) (List.mem_of_getElem? (i := 223) (by decide +kernel))
theorem fX7_2 : u_lay RX7 TX7 2 ∈ wsL_law := tseg_1 (by decide +kernel) (List.mem_of_getElem? (i := 225) (by decide +kernel))
theorem fX7_3 : u_lay RX7 TX7 3 ∈ wsL_law := tseg_1 (by decide +kernel) (List.mem_of_getElem? (i := 227) (by decide +kernel))
theorem fX7_4 : u_lay RX7 TX7 4 ∈ wsL_law := tseg_1 (by decide +kernel) (List.mem_of_getElem? (i := 229) (by decide +kernel))
theorem inlX7 : ∀ w ∈ wsX70, w ∈ wsL_law := by
  intro w h
  obtain ⟨k, hk, rfl⟩ := List.mem_map.mp h
  have hk := List.mem_range.mp hk
  rcases (show k = 0 ∨ k = 1 ∨ k = 2 ∨ k = 3 ∨ k = 4 by omega) with rfl | rfl | rfl | rfl | rfl
  · exact fX7_0
  · exact fX7_1
  · exact fX7_2
  · exact fX7_3
  · exact fX7_4
theorem fX8_0 : u_lay RX8 TX8 0 ∈ wsL_law := tseg_1 (by decide +kernel) (List.mem_of_getElem? (i := 42) (by decide +kernel))
theorem fX8_1 : u_lay RX8 TX8 1 ∈ wsL_law := tseg_1 (by decide +kernel) (List.mem_of_getElem? (i := 44) (by decide +kernel))
theorem inlX8 : ∀ w ∈ wsX80, w ∈ wsL_law := by
  intro w h
  obtain ⟨k, hk, rfl⟩ := List.mem_map.mp h
  have hk := List.mem_range.mp hk
  rcases (show k = 0 ∨ k = 1 by omega) with rfl | rfl
  · exact fX8_0
  · exact fX8_1
theorem fX9_0 : u_lay RX9 TX9 0 ∈ wsL_law := tseg_2 (by decide +kernel) (List.mem_of_getElem? (i := 2) (by decide +kernel))
theorem fX9_1 : u_lay RX9 TX9 1 ∈ wsL_law := tseg_2 (by decide +kernel) (List.mem_of_getElem? (i := 4) (by decide +kernel))
theorem inlX9 : ∀ w ∈ wsX90, w ∈ wsL_law := by
  intro w h
  obtain ⟨k, hk, rfl⟩ := List.mem_map.mp h
  have hk := List.mem_range.mp hk
  rcases (show k = 0 ∨ k = 1 by omega) with rfl | rfl
  · exact fX9_0
  · exact fX9_1
theorem fX10_0 : u_lay RX10 TX10 0 ∈ wsL_law := tseg_2 (by decide +kernel) (List.mem_of_getElem? (i := 96) (by decide +kernel))
theorem fX10_1 : u_lay RX10 TX10 1 ∈ wsL_law := tseg_2 (by decide +kernel) (List.mem_of_getElem? (i := 98) (by decide +kernel))
theorem inlX10 : ∀ w ∈ wsX100, w ∈ wsL_law := by
  intro w h
  obtain ⟨k, hk, rfl⟩ := List.mem_map.mp h
  have hk := List.mem_range.mp hk
  rcases (show k = 0 ∨ k = 1 by omega) with rfl | rfl
  · exact fX10_0
  · exact fX10_1
theorem fX11_0 : u_lay RX11 TX11 0 ∈ wsL_law := tseg_2 (by decide +kernel) (List.mem_of_getElem? (i := 158) (by decide +kernel))
theorem fX11_1 : u_lay RX11 TX11 1 ∈ wsL_law := tseg_2 (by decide +kernel) (List.mem_of_getElem? (i := 160) (by decide +kernel))
theorem fX11_2 : u_lay RX11 TX11 2 ∈ wsL_law := tseg_2 (by decide +kernel) (List.mem_of_getElem? (i := 162) (by decide +kernel))
theorem fX11_3 : u_lay RX11 TX11 3 ∈ wsL_law := tseg_2 (by decide +kernel) (List.mem_of_getElem? (i := 164) (by decide +kernel))
theorem fX11_4 : u_lay RX11 TX11 4 ∈ wsL_law := tseg_2 (by decide +kernel) (List.mem_of_getElem? (i := 166) (by decide +kernel))
theorem fX11_5 : u_lay RX11 TX11 5 ∈ wsL_law := tseg_2 (by decide +kernel) (List.mem_of_getElem? (i := 168) (by decide +kernel))
theorem fX11_6 : u_lay RX11 TX11 6 ∈ wsL_law := tseg_2 (by decide +kernel) (List.mem_of_getElem? (i := 170) (by decide +kernel))
theorem fX11_7 : u_lay RX11 TX11 7 ∈ wsL_law := tseg_2 (by decide +kernel) (List.mem_of_getElem? (i := 172) (by decide +kernel))
theorem fX11_8 : u_lay RX11 TX11 8 ∈ wsL_law := tseg_2 (by decide +kernel) (List.mem_of_getElem? (i := 174) (by decide +kernel))
theorem fX11_9 : u_lay RX11 TX11 9 ∈ wsL_law := tseg_2 (by decide +kernel) (List.mem_of_getElem? (i := 176) (by decide +kernel))
theorem fX11_10 : u_lay RX11 TX11 10 ∈ wsL_law := tseg_2 (by decide +kernel) (List.mem_of_getElem? (i := 178) (by decide +kernel))
theorem fX11_11 : u_lay RX11 TX11 11 ∈ wsL_law := tseg_2 (by decide +kernel) (List.mem_of_getElem? (i := 180) (by decide +kernel))
theorem fX11_12 : u_lay RX11 TX11 12 ∈ wsL_law := tseg_2 (by decide +kernel) (List.mem_of_getElem? (i := 182) (by decide +kernel))
theorem fX11_13 : u_lay RX11 TX11 13 ∈ wsL_law := tseg_2 (by decide +kernel) (List.mem_of_getElem? (i := 184) (by decide +kernel))
theorem fX11_14 : u_lay RX11 TX11 14 ∈ wsL_law := tseg_2 (by decide +kernel) (List.mem_of_getElem? (i := 186) (by decide +kernel))
theorem fX11_15 : u_lay RX11 TX11 15 ∈ wsL_law := tseg_2 (by decide +kernel) (List.mem_of_getElem? (i := 188) (by decide +kernel))
theorem fX11_16 : u_lay RX11 TX11 16 ∈ wsL_law := tseg_2 (by decide +kernel) (List.mem_of_getElem? (i := 190) (by decide +kernel))
theorem fX11_17 : u_lay RX11 TX11 17 ∈ wsL_law := tseg_2 (by decide +kernel) (List.mem_of_getElem? (i := 192) (by decide +kernel))
theorem inlX11 : ∀ w ∈ wsX110, w ∈ wsL_law := by
  intro w h
  obtain ⟨k, hk, rfl⟩ := List.mem_map.mp h
  have hk := List.mem_range.mp hk
  rcases (show k = 0 ∨ k = 1 ∨ k = 2 ∨ k = 3 ∨ k = 4 ∨ k = 5 ∨ k = 6 ∨ k = 7 ∨ k = 8 ∨ k = 9 ∨ k = 10 ∨ k = 11 ∨ k = 12 ∨ k = 13 ∨ k = 14 ∨ k = 15 ∨ k = 16 ∨ k = 17 by omega) with rfl | rfl | rfl | rfl | rfl | rfl | rfl | rfl | rfl | rfl | rfl | rfl | rfl | rfl | rfl | rfl | rfl | rfl
  · exact fX11_0
  · exact fX11_1
  · exact fX11_2
  · exact fX11_3
  · exact fX11_4
  · exact fX11_5
  · exact fX11_6
  · exact fX11_7
  · exact fX11_8
  · exact fX11_9
  · exact fX11_10
  · exact fX11_11
  · exact fX11_12
  · exact fX11_13
  · exact fX11_14
  · exact fX11_15
  · exact fX11_16
  · exact fX11_17
theorem fX12_0 : u_lay RX12 TX12 0 ∈ wsL_law := tseg_5 (by decide +kernel) (List.mem_of_getElem? (i := 162) (by decide +kernel))
theorem fX12_1 : u_lay RX12 TX12 1 ∈ wsL_law := tseg_5 (by decide +kernel) (List.mem_of_getElem? (i := 164) (by decide +kernel))
theorem fX12_2 : u_lay RX12 TX12 2 ∈ wsL_law := tseg_5 (by decide +kernel) (List.mem_of_getElem? (i := 166) (by decide +kernel))
theorem fX12_3 : u_lay RX12 TX12 3 ∈ wsL_law := tseg_5 (by decide +kernel) (List.mem_of_getElem? (i := 168) (by decide +kernel))
theorem fX12_4 : u_lay RX12 TX12 4 ∈ wsL_law := tseg_5 (by decide +kernel) (List.mem_of_getElem? (i := 170) (by decide +kernel))
theorem fX12_5 : u_lay RX12 TX12 5 ∈ wsL_law := tseg_5 (by decide +kernel) (List.mem_of_getElem? (i := 172) (by decide +kernel))
theorem fX12_6 : u_lay RX12 TX12 6 ∈ wsL_law := tseg_5 (by decide +kernel) (List.mem_of_getElem? (i := 174) (by decide +kernel))
theorem fX12_7 : u_lay RX12 TX12 7 ∈ wsL_law := tseg_5 (by decide +kernel) (List.mem_of_getElem? (i := 176) (by decide +kernel))
theorem fX12_8 : u_lay RX12 TX12 8 ∈ wsL_law := tseg_5 (by decide +kernel) (List.mem_of_getElem? (i := 178) (by decide +kernel))
theorem fX12_9 : u_lay RX12 TX12 9 ∈ wsL_law := tseg_5 (by decide +kernel) (List.mem_of_getElem? (i := 180) (by decide +kernel))
theorem fX12_10 : u_lay RX12 TX12 10 ∈ wsL_law := tseg_5 (by decide +kernel) (List.mem_of_getElem? (i := 182) (by decide +kernel))
theorem fX12_11 : u_lay RX12 TX12 11 ∈ wsL_law := tseg_5 (by decide +kernel) (List.mem_of_getElem? (i := 184) (by decide +kernel))
theorem fX12_12 : u_lay RX12 TX12 12 ∈ wsL_law := tseg_5 (by decide +kernel) (List.mem_of_getElem? (i := 186) (by decide +kernel))
theorem fX12_13 : u_lay RX12 TX12 13 ∈ wsL_law := tseg_5 (by decide +kernel) (List.mem_of_getElem? (i := 188) (by decide +kernel))
theorem fX12_14 : u_lay RX12 TX12 14 ∈ wsL_law := tseg_5 (by decide +kernel) (List.mem_of_getElem? (i := 190) (by decide +kernel))
theorem fX12_15 : u_lay RX12 TX12 15 ∈ wsL_law := tseg_5 (by decide +kernel) (List.mem_of_getElem? (i := 192) (by decide +kernel))
theorem fX12_16 : u_lay RX12 TX12 16 ∈ wsL_law := tseg_5 (by decide +kernel) (List.mem_of_getElem? (i := 194) (by decide +kernel))
theorem fX12_17 : u_lay RX12 TX12 17 ∈ wsL_law := tseg_5 (by decide +kernel) (List.mem_of_getElem? (i := 196) (by decide +kernel))
theorem fX12_18 : u_lay RX12 TX12 18 ∈ wsL_law := tseg_5 (by decide +kernel) (List.mem_of_getElem? (i := 198) (by decide +kernel))
theorem fX12_19 : u_lay RX12 TX12 19 ∈ wsL_law := tseg_5 (by decide +kernel) (List.mem_of_getElem? (i := 200) (by decide +kernel))
theorem fX12_20 : u_lay RX12 TX12 20 ∈ wsL_law := tseg_5 (by decide +kernel) (List.mem_of_getElem? (i := 202) (by decide +kernel))
theorem fX12_21 : u_lay RX12 TX12 21 ∈ wsL_law := tseg_5 (by decide +kernel) (List.mem_of_getElem? (i := 204) (by decide +kernel))
theorem fX12_22 : u_lay RX12 TX12 22 ∈ wsL_law := tseg_5 (by decide +kernel) (List.mem_of_getElem? (i := 206) (by decide +kernel))
theorem fX12_23 : u_lay RX12 TX12 23 ∈ wsL_law := tseg_5 (by decide +kernel) (List.mem_of_getElem? (i := 208) (by decide +kernel))
theorem fX12_24 : u_lay RX12 TX12 24 ∈ wsL_law := tseg_5 (by decide +kernel) (List.mem_of_getElem? (i := 210) (by decide +kernel))
theorem fX12_25 : u_lay RX12 TX12 25 ∈ wsL_law := tseg_5 (by decide +kernel) (List.mem_of_getElem? (i := 212) (by decide +kernel))
theorem fX12_26 : u_lay RX12 TX12 26 ∈ wsL_law := tseg_5 (by decide +kernel) (List.mem_of_getElem? (i := 214) (by decide +kernel))
theorem fX12_27 : u_lay RX12 TX12 27 ∈ wsL_law := tseg_5 (by decide +kernel) (List.mem_of_getElem? (i := 216) (by decide +kernel))
theorem fX12_28 : u_lay RX12 TX12 28 ∈ wsL_law := tseg_5 (by decide +kernel) (List.mem_of_getElem? (i := 218) (by decide +kernel))
theorem fX12_29 : u_lay RX12 TX12 29 ∈ wsL_law := tseg_5 (by decide +kernel) (List.mem_of_getElem? (i := 220) (by decide +kernel))
theorem fX12_30 : u_lay RX12 TX12 30 ∈ wsL_law := tseg_5 (by decide +kernel) (List.mem_of_getElem? (i := 222) (by decide +kernel))
theorem fX12_31 : u_lay RX12 TX12 31 ∈ wsL_law := tseg_5 (by decide +kernel) (List.mem_of_getElem? (i := 224) (by decide +kernel))
theorem fX12_32 : u_lay RX12 TX12 32 ∈ wsL_law := tseg_5 (by decide +kernel) (List.mem_of_getElem? (i := 226) (by decide +kernel))
theorem fX12_33 : u_lay RX12 TX12 33 ∈ wsL_law := tseg_5 (by decide +kernel) (List.mem_of_getElem? (i := 228) (by decide +kernel))
theorem fX12_34 : u_lay RX12 TX12 34 ∈ wsL_law := tseg_5 (by decide +kernel) (List.mem_of_getElem? (i := 230) (by decide +kernel))
theorem inlX12 : ∀ w ∈ wsX120, w ∈ wsL_law := by
  intro w h
  obtain ⟨k, hk, rfl⟩ := List.mem_map.mp h
  have hk := List.mem_range.mp hk
  rcases (show k = 0 ∨ k = 1 ∨ k = 2 ∨ k = 3 ∨ k = 4 ∨ k = 5 ∨ k = 6 ∨ k = 7 ∨ k = 8 ∨ k = 9 ∨ k = 10 ∨ k = 11 ∨ k = 12 ∨ k = 13 ∨ k = 14 ∨ k = 15 ∨ k = 16 ∨ k = 17 ∨ k = 18 ∨ k = 19 ∨ k = 20 ∨ k = 21 ∨ k = 22 ∨ k = 23 ∨ k = 24 ∨ k = 25 ∨ k = 26 ∨ k = 27 ∨ k = 28 ∨ k = 29 ∨ k = 30 ∨ k = 31 ∨ k = 32 ∨ k = 33 ∨ k = 34 by omega) with rfl | rfl | rfl | rfl | rfl | rfl | rfl | rfl | rfl | rfl | rfl | rfl | rfl | rfl | rfl | rfl | rfl | rfl | rfl | rfl | rfl | rfl | rfl | rfl | rfl | rfl | rfl | rfl | rfl | rfl | rfl | rfl | rfl | rfl | rfl
  · exact fX12_0
  · exact fX12_1
  · exact fX12_2
  · exact fX12_3
  · exact fX12_4
  · exact fX12_5
  · exact fX12_6
  · exact fX12_7
  · exact fX12_8
  · exact fX12_9
  · exact fX12_10
  · exact fX12_11
  · exact fX12_12
  · exact fX12_13
  · exact fX12_14
  · exact fX12_15
  · exact fX12_16
  · exact fX12_17
  · exact fX12_18
  · exact fX12_19
  · exact fX12_20
  · exact fX12_21
  · exact fX12_22
  · exact fX12_23
  · exact fX12_24
  · exact fX12_25
  · exact fX12_26
  · exact fX12_27
  · exact fX12_28
  · exact fX12_29
  · exact fX12_30
  · exact fX12_31
  · exact fX12_32
  · exact fX12_33
  · exact fX12_34
/-! ranges of numbers -/
theorem tr_w {x : Int32} {a b lo hi : Int} (h : a ≤ x.toInt ∧ x.toInt ≤ b) (h1 : lo ≤ a) (h2 : b ≤ hi) : lo ≤ x.toInt ∧ x.toInt ≤ hi := by omega
theorem nr_lt_l {x y a b c d lo hi : Int} (hx : a ≤ x ∧ x ≤ b) (hy : c ≤ y ∧ y ≤ d) (h : x < y) (e1 : lo ≤ a) (e2 : b ≤ hi ∨ d - 1 ≤ hi) : lo ≤ x ∧ x ≤ hi := by omega
theorem nr_lt_r {x y a b c d lo hi : Int} (hx : a ≤ x ∧ x ≤ b) (hy : c ≤ y ∧ y ≤ d) (h : x < y) (e1 : lo ≤ c ∨ lo ≤ a + 1) (e2 : d ≤ hi) : lo ≤ y ∧ y ≤ hi := by omega
theorem nr_le_l {x y a b c d lo hi : Int} (hx : a ≤ x ∧ x ≤ b) (hy : c ≤ y ∧ y ≤ d) (h : x ≤ y) (e1 : lo ≤ a) (e2 : b ≤ hi ∨ d ≤ hi) : lo ≤ x ∧ x ≤ hi := by omega
theorem nr_le_r {x y a b c d lo hi : Int} (hx : a ≤ x ∧ x ≤ b) (hy : c ≤ y ∧ y ≤ d) (h : x ≤ y) (e1 : lo ≤ c ∨ lo ≤ a) (e2 : d ≤ hi) : lo ≤ y ∧ y ≤ hi := by omega
theorem nr_eq_l {x y a b c d lo hi : Int} (hx : a ≤ x ∧ x ≤ b) (hy : c ≤ y ∧ y ≤ d) (h : x = y) (e1 : lo ≤ a ∨ lo ≤ c) (e2 : b ≤ hi ∨ d ≤ hi) : lo ≤ x ∧ x ≤ hi := by omega
theorem nr_eq_r {x y a b c d lo hi : Int} (hx : a ≤ x ∧ x ≤ b) (hy : c ≤ y ∧ y ≤ d) (h : x = y) (e1 : lo ≤ c ∨ lo ≤ a) (e2 : d ≤ hi ∨ b ≤ hi) : lo ≤ y ∧ y ≤ hi := by omega
theorem nr_ne_l {x y a b c d lo hi : Int} (hx : a ≤ x ∧ x ≤ b) (hy : c ≤ y ∧ y ≤ d) (h : ¬ x = y) (e1 : lo ≤ a ∨ (lo ≤ a + 1 ∧ a = c ∧ a = d)) (e2 : b ≤ hi ∨ (b - 1 ≤ hi ∧ b = c ∧ b = d)) : lo ≤ x ∧ x ≤ hi := by omega
theorem nr_ne_r {x y a b c d lo hi : Int} (hx : a ≤ x ∧ x ≤ b) (hy : c ≤ y ∧ y ≤ d) (h : ¬ x = y) (e1 : lo ≤ c ∨ (lo ≤ c + 1 ∧ c = a ∧ c = b)) (e2 : d ≤ hi ∨ (d - 1 ≤ hi ∧ d = a ∧ d = b)) : lo ≤ y ∧ y ≤ hi := by omega
theorem nr_pt {x c : Int} (h : c ≤ x ∧ x ≤ c) : x = c := by omega
theorem nr_8 {i : Nat} (h : i < 8) : i = 0 ∨ i = 1 ∨ i = 2 ∨ i = 3 ∨ i = 4 ∨ i = 5 ∨ i = 6 ∨ i = 7 := by omega
theorem nr_12 {i : Nat} (h : i < 12) : i = 0 ∨ i = 1 ∨ i = 2 ∨ i = 3 ∨ i = 4 ∨ i = 5 ∨ i = 6 ∨ i = 7 ∨ i = 8 ∨ i = 9 ∨ i = 10 ∨ i = 11 := by omega
theorem nr_x_lt {x y a b c d : Int} (hx : a ≤ x ∧ x ≤ b) (hy : c ≤ y ∧ y ≤ d) (h : x < y) (e : d ≤ a) : False := by omega
theorem nr_x_le {x y a b c d : Int} (hx : a ≤ x ∧ x ≤ b) (hy : c ≤ y ∧ y ≤ d) (h : x ≤ y) (e : d < a) : False := by omega
theorem nr_x_eq {x y a b c d : Int} (hx : a ≤ x ∧ x ≤ b) (hy : c ≤ y ∧ y ≤ d) (h : x = y) (e : b < c ∨ d < a) : False := by omega
theorem nr_x_ne {x y a b c d : Int} (hx : a ≤ x ∧ x ≤ b) (hy : c ≤ y ∧ y ≤ d) (h : ¬ x = y) (e : a = b ∧ c = d ∧ a = c) : False := by omega
theorem tr_wa {f : Nat → Int32} {a b lo hi : Int} (h : ∀ j : Nat, a ≤ (f j).toInt ∧ (f j).toInt ≤ b) (h1 : lo ≤ a) (h2 : b ≤ hi) : ∀ j : Nat, lo ≤ (f j).toInt ∧ (f j).toInt ≤ hi := fun j => tr_w (h j) h1 h2
theorem tr_any (x : Int32) : -2147483648 ≤ x.toInt ∧ x.toInt ≤ 2147483647 := by
  have h1 := Int32.le_toInt x
  have h2 := Int32.toInt_le x
  have e1 : Int32.maxValue.toInt = 2147483647 := by decide
  have e2 : Int32.minValue.toInt = -2147483648 := by decide
  omega
theorem tr_bmod {z : Int} (h1 : -2147483648 ≤ z) (h2 : z ≤ 2147483647) : z.bmod 4294967296 = z := by
  rw [Int.bmod_eq_of_le] <;> omega
theorem tr_addE {x y : Int32} {a b c : Int} (hx : a ≤ x.toInt ∧ x.toInt ≤ b) (hy : c ≤ y.toInt ∧ y.toInt ≤ c) (h1 : -2147483648 ≤ a + c) (h2 : b + c ≤ 2147483647) : (x + y).toInt = x.toInt + c := by
  rw [Int32.toInt_add]
  have e : y.toInt = c := by omega
  rw [e]
  exact tr_bmod (by omega) (by omega)
theorem tr_add {x y : Int32} {a b c d lo hi : Int} (hx : a ≤ x.toInt ∧ x.toInt ≤ b) (hy : c ≤ y.toInt ∧ y.toInt ≤ d) (h1 : -2147483648 ≤ a + c) (h2 : b + d ≤ 2147483647) (h3 : lo ≤ a + c) (h4 : b + d ≤ hi) : lo ≤ (x + y).toInt ∧ (x + y).toInt ≤ hi := by
  have e : (x + y).toInt = x.toInt + y.toInt := by
    rw [Int32.toInt_add]
    exact tr_bmod (by omega) (by omega)
  rw [e]
  omega
theorem tr_sub {x y : Int32} {a b c d lo hi : Int} (hx : a ≤ x.toInt ∧ x.toInt ≤ b) (hy : c ≤ y.toInt ∧ y.toInt ≤ d) (h1 : -2147483648 ≤ a - d) (h2 : b - c ≤ 2147483647) (h3 : lo ≤ a - d) (h4 : b - c ≤ hi) : lo ≤ (x - y).toInt ∧ (x - y).toInt ≤ hi := by
  have e : (x - y).toInt = x.toInt - y.toInt := by
    rw [Int32.toInt_sub]
    exact tr_bmod (by omega) (by omega)
  rw [e]
  omega
theorem tr_subE {x y : Int32} {a b c : Int} (hx : a ≤ x.toInt ∧ x.toInt ≤ b) (hy : c ≤ y.toInt ∧ y.toInt ≤ c) (h1 : -2147483648 ≤ a - c) (h2 : b - c ≤ 2147483647) : (x - y).toInt = x.toInt - c := by
  rw [Int32.toInt_sub]
  have e : y.toInt = c := by omega
  rw [e]
  exact tr_bmod (by omega) (by omega)
theorem tr_mul {x y : Int32} {a b c d lo hi : Int} (hx : a ≤ x.toInt ∧ x.toInt ≤ b) (hy : c ≤ y.toInt ∧ y.toInt ≤ d) (h1 : 0 ≤ a ∧ 0 ≤ c) (h2 : b * d ≤ 2147483647) (h3 : lo ≤ a * c) (h4 : b * d ≤ hi) : lo ≤ (x * y).toInt ∧ (x * y).toInt ≤ hi := by
  have m1 : a * c ≤ x.toInt * y.toInt := Int.mul_le_mul hx.1 hy.1 h1.2 (by omega)
  have m2 : x.toInt * y.toInt ≤ b * d := Int.mul_le_mul hx.2 hy.2 (by omega) (by omega)
  have m0 : 0 ≤ a * c := Int.mul_nonneg h1.1 h1.2
  have e : (x * y).toInt = x.toInt * y.toInt := by
    rw [Int32.toInt_mul]
    exact tr_bmod (by omega) (by omega)
  rw [e]
  omega
theorem tr_in {x : Int32} {a b : Int} {n : Nat} (h : a ≤ x.toInt ∧ x.toInt ≤ b) (h0 : 0 ≤ a) (h1 : b < (n : Int)) : vp_in x n := vp_in_iff.mpr ⟨by omega, by omega⟩
theorem tr_upd {f : Nat → Int32} {k : Nat} {x : Int32} {lo hi : Int} (h : ∀ j : Nat, lo ≤ (f j).toInt ∧ (f j).toInt ≤ hi) (hx : lo ≤ x.toInt ∧ x.toInt ≤ hi) : ∀ j : Nat, lo ≤ (upd f k x j).toInt ∧ (upd f k x j).toInt ≤ hi := by
  intro j
  show lo ≤ (if j = k then x else f j).toInt ∧ (if j = k then x else f j).toInt ≤ hi
  split
  · exact hx
  · exact h j
theorem tr_cpy {f h : Nat → Int32} {sp dp n : Nat} {lo hi : Int} (hf : ∀ j : Nat, lo ≤ (f j).toInt ∧ (f j).toInt ≤ hi) (hh : ∀ j : Nat, lo ≤ (h j).toInt ∧ (h j).toInt ≤ hi) : ∀ j : Nat, lo ≤ (va_cpy f h sp dp n j).toInt ∧ (va_cpy f h sp dp n j).toInt ≤ hi := by
  intro j
  unfold va_cpy
  split
  · exact hf _
  · exact hh _
theorem tr_nz {x : Int32} {a b : Int} (h : a ≤ x.toInt ∧ x.toInt ≤ b) (h0 : 0 < a ∨ b < 0) : ¬ x = 0 := fun e => by
  rw [e] at h
  have : (0 : Int32).toInt = 0 := by decide
  omega
theorem tr_cmp (x y : Int64) : -1 ≤ (lg_cmp x y).toInt ∧ (lg_cmp x y).toInt ≤ 1 := by
  unfold lg_cmp
  split
  · decide
  · split <;> decide
theorem tr_cmp0 {x : Int64} (h : ¬ lg_cmp x 0 = 0) : ¬ x = 0 := fun e => h (by rw [e]; decide)
theorem tr_cmp1 {x : Int64} (h : 0 ≤ lg_cmp x 1) : ¬ x = 0 := fun e => absurd h (by rw [e]; decide)
theorem tr_z {x : Int32} (h : 0 ≤ x.toInt ∧ x.toInt ≤ 1) : narrow .boolean (.int x) = .int x := by
  have e : x = 0 ∨ x = 1 := by
    rcases (show x.toInt = 0 ∨ x.toInt = 1 by omega) with q | q
    · exact Or.inl (Int32.toInt_inj.mp (q.trans (by decide)))
    · exact Or.inr (Int32.toInt_inj.mp (q.trans (by decide)))
  rcases e with rfl | rfl <;> decide
theorem tr_01 {x : Int32} (h : 0 ≤ x.toInt ∧ x.toInt ≤ 1) : x = 0 ∨ x = 1 := by
  rcases (show x.toInt = 0 ∨ x.toInt = 1 by omega) with q | q
  · exact Or.inl (Int32.toInt_inj.mp (q.trans (by decide)))
  · exact Or.inr (Int32.toInt_inj.mp (q.trans (by decide)))
theorem tr_or01 {x y : Int32} (hx : 0 ≤ x.toInt ∧ x.toInt ≤ 1) (hy : 0 ≤ y.toInt ∧ y.toInt ≤ 1) : 0 ≤ (x ||| y).toInt ∧ (x ||| y).toInt ≤ 1 := by
  rcases tr_01 hx with rfl | rfl <;> rcases tr_01 hy with rfl | rfl <;> decide
theorem tr_and01 {x y : Int32} (hx : 0 ≤ x.toInt ∧ x.toInt ≤ 1) (hy : 0 ≤ y.toInt ∧ y.toInt ≤ 1) : 0 ≤ (x &&& y).toInt ∧ (x &&& y).toInt ≤ 1 := by
  rcases tr_01 hx with rfl | rfl <;> rcases tr_01 hy with rfl | rfl <;> decide
theorem tr_cl {x : Int32} {n : Nat} (h : vp_in x n) : x.toNatClampNeg < n := Nat.not_le.mp fun q => h (Or.inr q)
section TQ
variable {p : Program} {l : Launch} {e : Env} {R : Room} {s : State} {m : MethodId} {args : Array Value} {below : List Frame} {meth : Method} {c : Code} {H H0 : Heap} {locs : List Loc} {cells slots : Nat} {Q : State → Prop} {pc : Nat} {ls : Array Slot} {rest : List Value} {cc : ByteArray} {D : va_G} {g : Nat → ClassId} {A : Nat → Prop} {rr : Nat → Nat} {WS : (Nat → Nat → Int64) → va_W} {ct : Nat → Nat → Int64}
theorem tq_ald (hx : p.tables.exec = Jvm.exec) (hb : c.code = cc) (hK : va_K D vwCl (TY g) s) (hP : va_P D vwCl (WS ct) H) (q0 : Nat) (hget : ∀ (ct : Nat → Nat → Int64) (i : Nat), i < 8 → (WS ct)[q0 + i]? = some (rr i, .inl (g 1, 8, .inr (.inl (ct i))))) {r j : Int32} (hr : vp_in r 8) (hj : vp_in j 8) (hdg : decode cc pc = .ok (.laload, 1))
    (kk : ∀ w : Int64, W p l e R s m args below meth c H locs cells slots Q (F0 m (pc + 1) ls (.long w :: rest))) : W p l e R s m args below meth c H locs cells slots Q (F0 m pc ls (.int j :: .ref (rr r.toNatClampNeg) :: rest)) :=
  va_lald hx hb hK hP (q0 + r.toNatClampNeg) 1 (hget ct _ (tr_cl hr)) rfl hj hdg (kk _)
theorem tq_ast (hx : p.tables.exec = Jvm.exec) (hb : c.code = cc) (hK : va_K D vwCl (TY g) s) (hP : va_P D vwCl (WS ct) H) (hD : va_D A (WS ct)) (hS : va_S A H0 H locs) (q0 : Nat) (hget : ∀ (ct : Nat → Nat → Int64) (i : Nat), i < 8 → (WS ct)[q0 + i]? = some (rr i, .inl (g 1, 8, .inr (.inl (ct i))))) (hset : ∀ (ct : Nat → Nat → Int64) (i : Nat) (f : Nat → Int64), i < 8 → (WS ct).set (q0 + i) (rr i, .inl (g 1, 8, .inr (.inl f))) = WS (fun k => if k = i then f else ct k)) {r j : Int32} {x : Int64} (hr : vp_in r 8) (hj : vp_in j 8) (hdg : decode cc pc = .ok (.lastore, 1))
    (kk : ∀ (ct1 : Nat → Nat → Int64) (H1 : Heap) (locs1 : List Loc), va_P D vwCl (WS ct1) H1 → va_D A (WS ct1) → va_S A H0 H1 locs1 → W p l e R s m args below meth c H1 locs1 cells slots Q (F0 m (pc + 1) ls rest)) : W p l e R s m args below meth c H locs cells slots Q (F0 m pc ls (.long x :: .int j :: .ref (rr r.toNatClampNeg) :: rest)) := by
  refine va_last hx hb hK hP hD hS (q0 + r.toNatClampNeg) 1 (hget ct _ (tr_cl hr)) rfl hj hdg (fun H1 locs1 hP hD hS => ?_)
  rw [hset ct _ _ (tr_cl hr)] at hP hD
  exact kk _ H1 locs1 hP hD hS
end TQ
