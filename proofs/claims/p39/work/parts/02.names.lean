def RX0 : String := "IceConvoys$Convoy"
def TX0 : u_T := fun k => match k with
  | 0 => ("IceConvoys$Convoy", "gap", "I", false)
  | 1 => ("IceConvoys$Convoy", "lead", "I", false)
  | 2 => ("IceConvoys$Convoy", "size", "I", false)
  | _ => ("IceConvoys$Convoy", "trucks", "[LIceConvoys$Truck;", true)
def tyX0 : Nat → FieldType := fun k => match k with
  | 0 => .int
  | 1 => .int
  | 2 => .int
  | _ => .array (.object "IceConvoys$Truck")
theorem nmX0 : ∀ a, a < 4 → ∀ b, b < 4 → a ≠ b → (TX0 a).2.1 ≠ (TX0 b).2.1 := by decide +kernel
theorem tyX0_ok : ∀ k, k < 4 → parseFieldDescriptor (TX0 k).2.2.1 = some (tyX0 k) := by decide +kernel
abbrev cX0_init : ByteArray := prog_2_method_1_code
def yX0_init : MethodName := ⟨RX0, "<init>", "()V"⟩
abbrev cX0_copyFrom : ByteArray := prog_2_method_2_code
def yX0_copyFrom : MethodName := ⟨RX0, "copyFrom", "(LIceConvoys$Convoy;)V"⟩
abbrev cX0_hasStarted : ByteArray := prog_2_method_3_code
def yX0_hasStarted : MethodName := ⟨RX0, "hasStarted", "()Z"⟩
abbrev cX0_isDone : ByteArray := prog_2_method_4_code
def yX0_isDone : MethodName := ⟨RX0, "isDone", "()Z"⟩
abbrev cX0_mileWithLead : ByteArray := prog_2_method_5_code
def yX0_mileWithLead : MethodName := ⟨RX0, "mileWithLead", "(II)I"⟩
abbrev cX0_mileOfTruck : ByteArray := prog_2_method_6_code
def yX0_mileOfTruck : MethodName := ⟨RX0, "mileOfTruck", "(I)I"⟩
abbrev cX0_countOnRoad : ByteArray := prog_2_method_7_code
def yX0_countOnRoad : MethodName := ⟨RX0, "countOnRoad", "()I"⟩
abbrev cX0_countArrived : ByteArray := prog_2_method_8_code
def yX0_countArrived : MethodName := ⟨RX0, "countArrived", "()I"⟩
abbrev cX0_placeAt : ByteArray := prog_2_method_9_code
def yX0_placeAt : MethodName := ⟨RX0, "placeAt", "(I)I"⟩
abbrev cX0_tonnesNotArrived : ByteArray := prog_2_method_10_code
def yX0_tonnesNotArrived : MethodName := ⟨RX0, "tonnesNotArrived", "()I"⟩
abbrev cX0_strainAheadOf : ByteArray := prog_2_method_11_code
def yX0_strainAheadOf : MethodName := ⟨RX0, "strainAheadOf", "(II)I"⟩
def RX1 : String := "IceConvoys$History"
def TX1 : u_T := fun k => match k with
  | 0 => ("IceConvoys$History", "kept", "[LIceConvoys$Road;", true)
  | 1 => ("IceConvoys$History", "next", "I", false)
  | _ => ("IceConvoys$History", "count", "I", false)
def tyX1 : Nat → FieldType := fun k => match k with
  | 0 => .array (.object "IceConvoys$Road")
  | 1 => .int
  | _ => .int
theorem nmX1 : ∀ a, a < 3 → ∀ b, b < 3 → a ≠ b → (TX1 a).2.1 ≠ (TX1 b).2.1 := by decide +kernel
theorem tyX1_ok : ∀ k, k < 3 → parseFieldDescriptor (TX1 k).2.2.1 = some (tyX1 k) := by decide +kernel
abbrev cX1_init : ByteArray := prog_3_method_1_code
def yX1_init : MethodName := ⟨RX1, "<init>", "()V"⟩
abbrev cX1_keep : ByteArray := prog_3_method_2_code
def yX1_keep : MethodName := ⟨RX1, "keep", "(LIceConvoys$Road;)V"⟩
abbrev cX1_takeBack : ByteArray := prog_3_method_3_code
def yX1_takeBack : MethodName := ⟨RX1, "takeBack", "(LIceConvoys$Road;)V"⟩
def RX2 : String := "IceConvoys$Mile"
def TX2 : u_T := fun k => match k with
  | 0 => ("IceConvoys$Mile", "thickness", "F", false)
  | 1 => ("IceConvoys$Mile", "noted", "F", false)
  | 2 => ("IceConvoys$Mile", "drillDay", "I", false)
  | 3 => ("IceConvoys$Mile", "cracks", "I", false)
  | 4 => ("IceConvoys$Mile", "strain", "I", false)
  | _ => ("IceConvoys$Mile", "visits", "I", false)
def tyX2 : Nat → FieldType := fun k => match k with
  | 0 => .float
  | 1 => .float
  | 2 => .int
  | 3 => .int
  | 4 => .int
  | _ => .int
theorem nmX2 : ∀ a, a < 6 → ∀ b, b < 6 → a ≠ b → (TX2 a).2.1 ≠ (TX2 b).2.1 := by decide +kernel
theorem tyX2_ok : ∀ k, k < 6 → parseFieldDescriptor (TX2 k).2.2.1 = some (tyX2 k) := by decide +kernel
abbrev cX2_init : ByteArray := prog_4_method_1_code
def yX2_init : MethodName := ⟨RX2, "<init>", "()V"⟩
abbrev cX2_copyFrom : ByteArray := prog_4_method_2_code
def yX2_copyFrom : MethodName := ⟨RX2, "copyFrom", "(LIceConvoys$Mile;)V"⟩
abbrev cX2_carry : ByteArray := prog_4_method_3_code
def yX2_carry : MethodName := ⟨RX2, "carry", "(LIceConvoys$Truck;)V"⟩
abbrev cX2_cracksAfter : ByteArray := prog_4_method_4_code
def yX2_cracksAfter : MethodName := ⟨RX2, "cracksAfter", "(I)I"⟩
abbrev cX2_liveThroughDay : ByteArray := prog_4_method_5_code
def yX2_liveThroughDay : MethodName := ⟨RX2, "liveThroughDay", "(I)V"⟩
def RX3 : String := "IceConvoys$Orders"
def TX3 : u_T := fun k => match k with
  | 0 => ("IceConvoys$Orders", "text", "[C", true)
  | 1 => ("IceConvoys$Orders", "length", "I", false)
  | 2 => ("IceConvoys$Orders", "offset", "I", false)
  | 3 => ("IceConvoys$Orders", "count", "I", false)
  | 4 => ("IceConvoys$Orders", "letters", "[I", true)
  | 5 => ("IceConvoys$Orders", "firsts", "[I", true)
  | 6 => ("IceConvoys$Orders", "seconds", "[I", true)
  | _ => ("IceConvoys$Orders", "thirds", "[I", true)
def tyX3 : Nat → FieldType := fun k => match k with
  | 0 => .array .char
  | 1 => .int
  | 2 => .int
  | 3 => .int
  | 4 => .array .int
  | 5 => .array .int
  | 6 => .array .int
  | _ => .array .int
theorem nmX3 : ∀ a, a < 8 → ∀ b, b < 8 → a ≠ b → (TX3 a).2.1 ≠ (TX3 b).2.1 := by decide +kernel
theorem tyX3_ok : ∀ k, k < 8 → parseFieldDescriptor (TX3 k).2.2.1 = some (tyX3 k) := by decide +kernel
abbrev cX3_init : ByteArray := prog_5_method_1_code
def yX3_init : MethodName := ⟨RX3, "<init>", "()V"⟩
abbrev cX3_parse : ByteArray := prog_5_method_2_code
def yX3_parse : MethodName := ⟨RX3, "parse", "()I"⟩
abbrev cX3_parseOrder : ByteArray := prog_5_method_3_code
def yX3_parseOrder : MethodName := ⟨RX3, "parseOrder", "()Z"⟩
abbrev cX3_parseTemperature : ByteArray := prog_5_method_4_code
def yX3_parseTemperature : MethodName := ⟨RX3, "parseTemperature", "()Z"⟩
abbrev cX3_parseJoin : ByteArray := prog_5_method_5_code
def yX3_parseJoin : MethodName := ⟨RX3, "parseJoin", "()Z"⟩
abbrev cX3_skip : ByteArray := prog_5_method_6_code
def yX3_skip : MethodName := ⟨RX3, "skip", "(C)Z"⟩
abbrev cX3_parseNumber : ByteArray := prog_5_method_7_code
def yX3_parseNumber : MethodName := ⟨RX3, "parseNumber", "()I"⟩
abbrev cX3_parseDigit : ByteArray := prog_5_method_8_code
def yX3_parseDigit : MethodName := ⟨RX3, "parseDigit", "()I"⟩
abbrev cX3_carryOut : ByteArray := prog_5_method_9_code
def yX3_carryOut : MethodName := ⟨RX3, "carryOut", "(ILIceConvoys$Road;)I"⟩
abbrev cX3_carryOutDrill : ByteArray := prog_5_method_10_code
def yX3_carryOutDrill : MethodName := ⟨RX3, "carryOutDrill", "(ILIceConvoys$Road;)I"⟩
abbrev cX3_carryOutMove : ByteArray := prog_5_method_11_code
def yX3_carryOutMove : MethodName := ⟨RX3, "carryOutMove", "(IILIceConvoys$Road;)I"⟩
abbrev cX3_carryOutTemperature : ByteArray := prog_5_method_12_code
def yX3_carryOutTemperature : MethodName := ⟨RX3, "carryOutTemperature", "(ILIceConvoys$Road;)I"⟩
abbrev cX3_carryOutJoin : ByteArray := prog_5_method_13_code
def yX3_carryOutJoin : MethodName := ⟨RX3, "carryOutJoin", "(ILIceConvoys$Road;)I"⟩
abbrev cX3_carryOutDays : ByteArray := prog_5_method_14_code
def yX3_carryOutDays : MethodName := ⟨RX3, "carryOutDays", "(ILIceConvoys$Road;)I"⟩
def RX4 : String := "IceConvoys$Road"
def TX4 : u_T := fun k => match k with
  | 0 => ("IceConvoys$Road", "settings", "[I", true)
  | 1 => ("IceConvoys$Road", "day", "I", false)
  | 2 => ("IceConvoys$Road", "miles", "[LIceConvoys$Mile;", true)
  | 3 => ("IceConvoys$Road", "rows", "[LIceConvoys$Truck;", true)
  | 4 => ("IceConvoys$Road", "convoys", "[LIceConvoys$Convoy;", true)
  | 5 => ("IceConvoys$Road", "convoyCount", "I", false)
  | 6 => ("IceConvoys$Road", "drills", "I", false)
  | 7 => ("IceConvoys$Road", "tonnesCame", "I", false)
  | _ => ("IceConvoys$Road", "tonnesDelivered", "I", false)
def tyX4 : Nat → FieldType := fun k => match k with
  | 0 => .array .int
  | 1 => .int
  | 2 => .array (.object "IceConvoys$Mile")
  | 3 => .array (.object "IceConvoys$Truck")
  | 4 => .array (.object "IceConvoys$Convoy")
  | 5 => .int
  | 6 => .int
  | 7 => .int
  | _ => .int
theorem nmX4 : ∀ a, a < 9 → ∀ b, b < 9 → a ≠ b → (TX4 a).2.1 ≠ (TX4 b).2.1 := by decide +kernel
theorem tyX4_ok : ∀ k, k < 9 → parseFieldDescriptor (TX4 k).2.2.1 = some (tyX4 k) := by decide +kernel
abbrev cX4_init : ByteArray := prog_6_method_1_code
def yX4_init : MethodName := ⟨RX4, "<init>", "()V"⟩
abbrev cX4_copyFrom : ByteArray := prog_6_method_2_code
def yX4_copyFrom : MethodName := ⟨RX4, "copyFrom", "(LIceConvoys$Road;)V"⟩
abbrev cX4_isConvoy : ByteArray := prog_6_method_3_code
def yX4_isConvoy : MethodName := ⟨RX4, "isConvoy", "(I)Z"⟩
abbrev cX4_truckIn : ByteArray := prog_6_method_4_code
def yX4_truckIn : MethodName := ⟨RX4, "truckIn", "(II)LIceConvoys$Truck;"⟩
abbrev cX4_noteIce : ByteArray := prog_6_method_5_code
def yX4_noteIce : MethodName := ⟨RX4, "noteIce", "(LIceConvoys$Mile;)V"⟩
abbrev cX4_isDrillGood : ByteArray := prog_6_method_6_code
def yX4_isDrillGood : MethodName := ⟨RX4, "isDrillGood", "(LIceConvoys$Mile;)Z"⟩
abbrev cX4_borneByDrill : ByteArray := prog_6_method_7_code
def yX4_borneByDrill : MethodName := ⟨RX4, "borneByDrill", "(LIceConvoys$Mile;)F"⟩
abbrev cX4_borneWithCracks : ByteArray := prog_6_method_8_code
def yX4_borneWithCracks : MethodName := ⟨RX4, "borneWithCracks", "(LIceConvoys$Mile;I)F"⟩
abbrev cX4_freePlace : ByteArray := prog_6_method_9_code
def yX4_freePlace : MethodName := ⟨RX4, "freePlace", "(I)I"⟩
abbrev cX4_convoyAt : ByteArray := prog_6_method_10_code
def yX4_convoyAt : MethodName := ⟨RX4, "convoyAt", "(I)I"⟩
abbrev cX4_isTakenByOther : ByteArray := prog_6_method_11_code
def yX4_isTakenByOther : MethodName := ⟨RX4, "isTakenByOther", "(II)Z"⟩
abbrev cX4_joinObstacle : ByteArray := prog_6_method_12_code
def yX4_joinObstacle : MethodName := ⟨RX4, "joinObstacle", "(III)I"⟩
abbrev cX4_startObstacle : ByteArray := prog_6_method_13_code
def yX4_startObstacle : MethodName := ⟨RX4, "startObstacle", "(I)I"⟩
abbrev cX4_rollObstacle : ByteArray := prog_6_method_14_code
def yX4_rollObstacle : MethodName := ⟨RX4, "rollObstacle", "(I)I"⟩
abbrev cX4_wayObstacle : ByteArray := prog_6_method_15_code
def yX4_wayObstacle : MethodName := ⟨RX4, "wayObstacle", "(I)I"⟩
abbrev cX4_letJoin : ByteArray := prog_6_method_16_code
def yX4_letJoin : MethodName := ⟨RX4, "letJoin", "(LIceConvoys$Convoy;I)V"⟩
abbrev cX4_advance : ByteArray := prog_6_method_17_code
def yX4_advance : MethodName := ⟨RX4, "advance", "(LIceConvoys$Convoy;)V"⟩
abbrev cX4_countRollsAhead : ByteArray := prog_6_method_18_code
def yX4_countRollsAhead : MethodName := ⟨RX4, "countRollsAhead", "(I)I"⟩
abbrev cX4_couldLeadBe : ByteArray := prog_6_method_19_code
def yX4_couldLeadBe : MethodName := ⟨RX4, "couldLeadBe", "(II)Z"⟩
abbrev cX4_letDaysGoBy : ByteArray := prog_6_method_20_code
def yX4_letDaysGoBy : MethodName := ⟨RX4, "letDaysGoBy", "(I)V"⟩
abbrev cX4_countGoodDrills : ByteArray := prog_6_method_21_code
def yX4_countGoodDrills : MethodName := ⟨RX4, "countGoodDrills", "()I"⟩
abbrev cX4_countCracks : ByteArray := prog_6_method_22_code
def yX4_countCracks : MethodName := ⟨RX4, "countCracks", "()I"⟩
abbrev cX4_countInRows : ByteArray := prog_6_method_23_code
def yX4_countInRows : MethodName := ⟨RX4, "countInRows", "()I"⟩
abbrev cX4_countStarted : ByteArray := prog_6_method_24_code
def yX4_countStarted : MethodName := ⟨RX4, "countStarted", "()I"⟩
abbrev cX4_countDone : ByteArray := prog_6_method_25_code
def yX4_countDone : MethodName := ⟨RX4, "countDone", "()I"⟩
abbrev cX4_countOnRoad : ByteArray := prog_6_method_26_code
def yX4_countOnRoad : MethodName := ⟨RX4, "countOnRoad", "()I"⟩
abbrev cX4_countArrived : ByteArray := prog_6_method_27_code
def yX4_countArrived : MethodName := ⟨RX4, "countArrived", "()I"⟩
abbrev cX4_tonnesInRows : ByteArray := prog_6_method_28_code
def yX4_tonnesInRows : MethodName := ⟨RX4, "tonnesInRows", "()I"⟩
abbrev cX4_tonnesUnderWay : ByteArray := prog_6_method_29_code
def yX4_tonnesUnderWay : MethodName := ⟨RX4, "tonnesUnderWay", "()I"⟩
abbrev cX4_hasOneTruckAMile : ByteArray := prog_6_method_30_code
def yX4_hasOneTruckAMile : MethodName := ⟨RX4, "hasOneTruckAMile", "()Z"⟩
abbrev cX4_isIceInRange : ByteArray := prog_6_method_31_code
def yX4_isIceInRange : MethodName := ⟨RX4, "isIceInRange", "()Z"⟩
def RX5 : String := "IceConvoys$Truck"
def TX5 : u_T := fun k => match k with
  | 0 => ("IceConvoys$Truck", "kind", "I", true)
  | 1 => ("IceConvoys$Truck", "weight", "I", true)
  | _ => ("IceConvoys$Truck", "axles", "I", true)
def tyX5 : Nat → FieldType := fun k => match k with
  | 0 => .int
  | 1 => .int
  | _ => .int
theorem nmX5 : ∀ a, a < 3 → ∀ b, b < 3 → a ≠ b → (TX5 a).2.1 ≠ (TX5 b).2.1 := by decide +kernel
theorem tyX5_ok : ∀ k, k < 3 → parseFieldDescriptor (TX5 k).2.2.1 = some (tyX5 k) := by decide +kernel
abbrev cX5_init : ByteArray := prog_7_method_1_code
def yX5_init : MethodName := ⟨RX5, "<init>", "(III)V"⟩
abbrev cX5_burden : ByteArray := prog_7_method_2_code
def yX5_burden : MethodName := ⟨RX5, "burden", "()F"⟩
abbrev cX5_strainOnIce : ByteArray := prog_7_method_3_code
def yX5_strainOnIce : MethodName := ⟨RX5, "strainOnIce", "()I"⟩
def RX6 : String := "IceConvoys"
def TX6 : u_T := fun k => match k with
  | 0 => ("IceConvoys", "now", "LIceConvoys$Road;", true)
  | 1 => ("IceConvoys", "trial", "LIceConvoys$Road;", true)
  | 2 => ("IceConvoys", "snapshot", "LIceConvoys$Road;", true)
  | 3 => ("IceConvoys", "hasSnapshot", "Z", false)
  | 4 => ("IceConvoys", "history", "LIceConvoys$History;", true)
  | 5 => ("IceConvoys", "orders", "LIceConvoys$Orders;", true)
  | 6 => ("IceConvoys", "errorOffset", "I", false)
  | _ => ("IceConvoys", "lastRefusal", "I", false)
def tyX6 : Nat → FieldType := fun k => match k with
  | 0 => .object "IceConvoys$Road"
  | 1 => .object "IceConvoys$Road"
  | 2 => .object "IceConvoys$Road"
  | 3 => .boolean
  | 4 => .object "IceConvoys$History"
  | 5 => .object "IceConvoys$Orders"
  | 6 => .int
  | _ => .int
theorem nmX6 : ∀ a, a < 8 → ∀ b, b < 8 → a ≠ b → (TX6 a).2.1 ≠ (TX6 b).2.1 := by decide +kernel
theorem tyX6_ok : ∀ k, k < 8 → parseFieldDescriptor (TX6 k).2.2.1 = some (tyX6 k) := by decide +kernel
abbrev cX6_init : ByteArray := prog_1_method_1_code
def yX6_init : MethodName := ⟨RX6, "<init>", "()V"⟩
abbrev cX6_set : ByteArray := prog_1_method_2_code
def yX6_set : MethodName := ⟨RX6, "set", "(II)I"⟩
abbrev cX6_setting : ByteArray := prog_1_method_3_code
def yX6_setting : MethodName := ⟨RX6, "setting", "(I)I"⟩
abbrev cX6_drill : ByteArray := prog_1_method_4_code
def yX6_drill : MethodName := ⟨RX6, "drill", "(I)I"⟩
abbrev cX6_drilled : ByteArray := prog_1_method_5_code
def yX6_drilled : MethodName := ⟨RX6, "drilled", "(I)I"⟩
abbrev cX6_mileOf : ByteArray := prog_1_method_6_code
def yX6_mileOf : MethodName := ⟨RX6, "mileOf", "(II)I"⟩
abbrev cX6_ice : ByteArray := prog_1_method_7_code
def yX6_ice : MethodName := ⟨RX6, "ice", "(I)F"⟩
abbrev cX6_bears : ByteArray := prog_1_method_8_code
def yX6_bears : MethodName := ⟨RX6, "bears", "(I)I"⟩
abbrev cX6_sign : ByteArray := prog_1_method_9_code
def yX6_sign : MethodName := ⟨RX6, "sign", "(I)C"⟩
abbrev cX6_weakest : ByteArray := prog_1_method_10_code
def yX6_weakest : MethodName := ⟨RX6, "weakest", "()I"⟩
abbrev cX6_truck : ByteArray := prog_1_method_11_code
def yX6_truck : MethodName := ⟨RX6, "truck", "(IIII)I"⟩
abbrev cX6_inRow : ByteArray := prog_1_method_12_code
def yX6_inRow : MethodName := ⟨RX6, "inRow", "(III)I"⟩
abbrev cX6_convoy : ByteArray := prog_1_method_13_code
def yX6_convoy : MethodName := ⟨RX6, "convoy", "(I)I"⟩
abbrev cX6_join : ByteArray := prog_1_method_14_code
def yX6_join : MethodName := ⟨RX6, "join", "(III)I"⟩
abbrev cX6_start : ByteArray := prog_1_method_15_code
def yX6_start : MethodName := ⟨RX6, "start", "(I)I"⟩
abbrev cX6_roll : ByteArray := prog_1_method_16_code
def yX6_roll : MethodName := ⟨RX6, "roll", "(I)I"⟩
abbrev cX6_why : ByteArray := prog_1_method_17_code
def yX6_why : MethodName := ⟨RX6, "why", "(IZ)I"⟩
abbrev cX6_convoyOf : ByteArray := prog_1_method_18_code
def yX6_convoyOf : MethodName := ⟨RX6, "convoyOf", "(II)I"⟩
abbrev cX6_truckOf : ByteArray := prog_1_method_19_code
def yX6_truckOf : MethodName := ⟨RX6, "truckOf", "(III)I"⟩
abbrev cX6_load : ByteArray := prog_1_method_20_code
def yX6_load : MethodName := ⟨RX6, "load", "(II)F"⟩
abbrev cX6_at : ByteArray := prog_1_method_21_code
def yX6_at : MethodName := ⟨RX6, "at", "(I)I"⟩
abbrev cX6_rolls : ByteArray := prog_1_method_22_code
def yX6_rolls : MethodName := ⟨RX6, "rolls", "(I)I"⟩
abbrev cX6_rollsAgain : ByteArray := prog_1_method_23_code
def yX6_rollsAgain : MethodName := ⟨RX6, "rollsAgain", "(I)I"⟩
abbrev cX6_iceIn : ByteArray := prog_1_method_24_code
def yX6_iceIn : MethodName := ⟨RX6, "iceIn", "(II)I"⟩
abbrev cX6_bearsIn : ByteArray := prog_1_method_25_code
def yX6_bearsIn : MethodName := ⟨RX6, "bearsIn", "(II)I"⟩
abbrev cX6_pass : ByteArray := prog_1_method_26_code
def yX6_pass : MethodName := ⟨RX6, "pass", "(I)I"⟩
abbrev cX6_append : ByteArray := prog_1_method_27_code
def yX6_append : MethodName := ⟨RX6, "append", "(C)I"⟩
abbrev cX6_read : ByteArray := prog_1_method_28_code
def yX6_read : MethodName := ⟨RX6, "read", "()I"⟩
abbrev cX6_refusal : ByteArray := prog_1_method_30_code
def yX6_refusal : MethodName := ⟨RX6, "refusal", "(Z)I"⟩
abbrev cX6_account : ByteArray := prog_1_method_31_code
def yX6_account : MethodName := ⟨RX6, "account", "(I)I"⟩
abbrev cX6_isWell : ByteArray := prog_1_method_32_code
def yX6_isWell : MethodName := ⟨RX6, "isWell", "()Z"⟩
abbrev cX6_meanBits : ByteArray := prog_1_method_33_code
def yX6_meanBits : MethodName := ⟨RX6, "meanBits", "()J"⟩
abbrev cX6_share : ByteArray := prog_1_method_34_code
def yX6_share : MethodName := ⟨RX6, "share", "()F"⟩
abbrev cX6_undo : ByteArray := prog_1_method_35_code
def yX6_undo : MethodName := ⟨RX6, "undo", "()I"⟩
abbrev cX6_isSetting : ByteArray := prog_1_method_38_code
def yX6_isSetting : MethodName := ⟨RX6, "isSetting", "(I)Z"⟩
abbrev cX6_isSettingValue : ByteArray := prog_1_method_39_code
def yX6_isSettingValue : MethodName := ⟨RX6, "isSettingValue", "(II)Z"⟩
abbrev cX6_isMile : ByteArray := prog_1_method_40_code
def yX6_isMile : MethodName := ⟨RX6, "isMile", "(I)Z"⟩
abbrev cX6_isRow : ByteArray := prog_1_method_41_code
def yX6_isRow : MethodName := ⟨RX6, "isRow", "(I)Z"⟩
abbrev cX6_isPlace : ByteArray := prog_1_method_42_code
def yX6_isPlace : MethodName := ⟨RX6, "isPlace", "(I)Z"⟩
abbrev cX6_isDaysToPass : ByteArray := prog_1_method_43_code
def yX6_isDaysToPass : MethodName := ⟨RX6, "isDaysToPass", "(I)Z"⟩
abbrev cX6_refusalFor : ByteArray := prog_1_method_44_code
def yX6_refusalFor : MethodName := ⟨RX6, "refusalFor", "(II)I"⟩
abbrev cX6_nextIce : ByteArray := prog_1_method_45_code
def yX6_nextIce : MethodName := ⟨RX6, "nextIce", "(FI)F"⟩
abbrev cX6_borneBy : ByteArray := prog_1_method_46_code
def yX6_borneBy : MethodName := ⟨RX6, "borneBy", "(FII)F"⟩
abbrev cX6_floatBits : ByteArray := prog_1_method_47_code
def yX6_floatBits : MethodName := ⟨RX6, "floatBits", "(F)I"⟩
abbrev cX6_doubleBits : ByteArray := prog_1_method_48_code
def yX6_doubleBits : MethodName := ⟨RX6, "doubleBits", "(D)J"⟩
def RX7 : String := "IceConvoysModel"
def TX7 : u_T := fun k => match k with
  | _ => ("", "", "", false)
def tyX7 : Nat → FieldType := fun k => match k with
  | _ => .int
theorem nmX7 : ∀ a, a < 0 → ∀ b, b < 0 → a ≠ b → (TX7 a).2.1 ≠ (TX7 b).2.1 := by decide +kernel
theorem tyX7_ok : ∀ k, k < 0 → parseFieldDescriptor (TX7 k).2.2.1 = some (tyX7 k) := by decide +kernel
def RJx145de : String := "java/io/Serializable"
def TJx145de : u_T := fun k => match k with
  | _ => ("", "", "", false)
def tyJx145de : Nat → FieldType := fun k => match k with
  | _ => .int
theorem nmJx145de : ∀ a, a < 0 → ∀ b, b < 0 → a ≠ b → (TJx145de a).2.1 ≠ (TJx145de b).2.1 := by decide +kernel
theorem tyJx145de_ok : ∀ k, k < 0 → parseFieldDescriptor (TJx145de k).2.2.1 = some (tyJx145de k) := by decide +kernel
def RJ5 : String := "java/lang/AbstractStringBuilder"
def TJ5 : u_T := fun k => match k with
  | _ => ("", "", "", false)
def tyJ5 : Nat → FieldType := fun k => match k with
  | _ => .int
theorem nmJ5 : ∀ a, a < 0 → ∀ b, b < 0 → a ≠ b → (TJ5 a).2.1 ≠ (TJ5 b).2.1 := by decide +kernel
theorem tyJ5_ok : ∀ k, k < 0 → parseFieldDescriptor (TJ5 k).2.2.1 = some (tyJ5 k) := by decide +kernel
abbrev cJ5_init_d00df : ByteArray := prog_11_method_2_code
def yJ5_init_d00df : MethodName := ⟨RJ5, "<init>", "(I)V"⟩
abbrev cJ5_length_8abf5 : ByteArray := prog_11_method_6_code
def yJ5_length_8abf5 : MethodName := ⟨RJ5, "length", "()I"⟩
abbrev cJ5_ensureCapacityInternal_d00df : ByteArray := prog_11_method_9_code
def yJ5_ensureCapacityInternal_d00df : MethodName := ⟨RJ5, "ensureCapacityInternal", "(I)V"⟩
abbrev cJ5_newCapacity_0f7a4 : ByteArray := prog_11_method_10_code
def yJ5_newCapacity_0f7a4 : MethodName := ⟨RJ5, "newCapacity", "(I)I"⟩
abbrev cJ5_inflate_da8c8 : ByteArray := prog_11_method_11_code
def yJ5_inflate_da8c8 : MethodName := ⟨RJ5, "inflate", "()V"⟩
abbrev cJ5_append_cf1ce : ByteArray := prog_11_method_22_code
def yJ5_append_cf1ce : MethodName := ⟨RJ5, "append", "(Ljava/lang/String;)Ljava/lang/AbstractStringBuilder;"⟩
abbrev cJ5_appendNull_278bc : ByteArray := prog_11_method_26_code
def yJ5_appendNull_278bc : MethodName := ⟨RJ5, "appendNull", "()Ljava/lang/AbstractStringBuilder;"⟩
abbrev cJ5_append_c97b9 : ByteArray := prog_11_method_32_code
def yJ5_append_c97b9 : MethodName := ⟨RJ5, "append", "(I)Ljava/lang/AbstractStringBuilder;"⟩
abbrev cJ5_getValue_6d5f1 : ByteArray := prog_11_method_64_code
def yJ5_getValue_6d5f1 : MethodName := ⟨RJ5, "getValue", "()[B"⟩
abbrev cJ5_isLatin1_aae02 : ByteArray := prog_11_method_68_code
def yJ5_isLatin1_aae02 : MethodName := ⟨RJ5, "isLatin1", "()Z"⟩
abbrev cJ5_inflateIfNeededFor_a7421 : ByteArray := prog_11_method_71_code
def yJ5_inflateIfNeededFor_a7421 : MethodName := ⟨RJ5, "inflateIfNeededFor", "(Ljava/lang/String;)V"⟩
abbrev cJ5_putStringAt_47b60 : ByteArray := prog_11_method_73_code
def yJ5_putStringAt_47b60 : MethodName := ⟨RJ5, "putStringAt", "(ILjava/lang/String;)V"⟩
def RJx2cfe8 : String := "java/lang/Appendable"
def TJx2cfe8 : u_T := fun k => match k with
  | _ => ("", "", "", false)
def tyJx2cfe8 : Nat → FieldType := fun k => match k with
  | _ => .int
theorem nmJx2cfe8 : ∀ a, a < 0 → ∀ b, b < 0 → a ≠ b → (TJx2cfe8 a).2.1 ≠ (TJx2cfe8 b).2.1 := by decide +kernel
theorem tyJx2cfe8_ok : ∀ k, k < 0 → parseFieldDescriptor (TJx2cfe8 k).2.2.1 = some (tyJx2cfe8 k) := by decide +kernel
def RJx00060 : String := "java/lang/ArrayIndexOutOfBoundsException"
def TJx00060 : u_T := fun k => match k with
  | 0 => ("java/lang/Throwable", "backtrace", "Ljava/lang/Object;", false)
  | 1 => ("java/lang/Throwable", "detailMessage", "Ljava/lang/String;", false)
  | 2 => ("java/lang/Throwable", "cause", "Ljava/lang/Throwable;", false)
  | 3 => ("java/lang/Throwable", "stackTrace", "[Ljava/lang/StackTraceElement;", false)
  | 4 => ("java/lang/Throwable", "depth", "I", false)
  | _ => ("java/lang/Throwable", "suppressedExceptions", "Ljava/util/List;", false)
def tyJx00060 : Nat → FieldType := fun k => match k with
  | 0 => .object "java/lang/Object"
  | 1 => .object "java/lang/String"
  | 2 => .object "java/lang/Throwable"
  | 3 => .array (.object "java/lang/StackTraceElement")
  | 4 => .int
  | _ => .object "java/util/List"
theorem nmJx00060 : ∀ a, a < 6 → ∀ b, b < 6 → a ≠ b → (TJx00060 a).2.1 ≠ (TJx00060 b).2.1 := by decide +kernel
theorem tyJx00060_ok : ∀ k, k < 6 → parseFieldDescriptor (TJx00060 k).2.2.1 = some (tyJx00060 k) := by decide +kernel
abbrev cJx00060_init_a7421 : ByteArray := prog_14_method_2_code
def yJx00060_init_a7421 : MethodName := ⟨RJx00060, "<init>", "(Ljava/lang/String;)V"⟩
def RJx9f9b0 : String := "java/lang/CharSequence"
def TJx9f9b0 : u_T := fun k => match k with
  | _ => ("", "", "", false)
def tyJx9f9b0 : Nat → FieldType := fun k => match k with
  | _ => .int
theorem nmJx9f9b0 : ∀ a, a < 0 → ∀ b, b < 0 → a ≠ b → (TJx9f9b0 a).2.1 ≠ (TJx9f9b0 b).2.1 := by decide +kernel
theorem tyJx9f9b0_ok : ∀ k, k < 0 → parseFieldDescriptor (TJx9f9b0 k).2.2.1 = some (tyJx9f9b0 k) := by decide +kernel
def RJx8e188 : String := "java/lang/Cloneable"
def TJx8e188 : u_T := fun k => match k with
  | _ => ("", "", "", false)
def tyJx8e188 : Nat → FieldType := fun k => match k with
  | _ => .int
theorem nmJx8e188 : ∀ a, a < 0 → ∀ b, b < 0 → a ≠ b → (TJx8e188 a).2.1 ≠ (TJx8e188 b).2.1 := by decide +kernel
theorem tyJx8e188_ok : ∀ k, k < 0 → parseFieldDescriptor (TJx8e188 k).2.2.1 = some (tyJx8e188 k) := by decide +kernel
def RJxb160c : String := "java/lang/Comparable"
def TJxb160c : u_T := fun k => match k with
  | _ => ("", "", "", false)
def tyJxb160c : Nat → FieldType := fun k => match k with
  | _ => .int
theorem nmJxb160c : ∀ a, a < 0 → ∀ b, b < 0 → a ≠ b → (TJxb160c a).2.1 ≠ (TJxb160c b).2.1 := by decide +kernel
theorem tyJxb160c_ok : ∀ k, k < 0 → parseFieldDescriptor (TJxb160c k).2.2.1 = some (tyJxb160c k) := by decide +kernel
def RJxe99ae : String := "java/lang/Double"
def TJxe99ae : u_T := fun k => match k with
  | _ => ("", "", "", false)
def tyJxe99ae : Nat → FieldType := fun k => match k with
  | _ => .int
theorem nmJxe99ae : ∀ a, a < 0 → ∀ b, b < 0 → a ≠ b → (TJxe99ae a).2.1 ≠ (TJxe99ae b).2.1 := by decide +kernel
theorem tyJxe99ae_ok : ∀ k, k < 0 → parseFieldDescriptor (TJxe99ae k).2.2.1 = some (tyJxe99ae k) := by decide +kernel
abbrev cJxe99ae_isNaN_b9ae7 : ByteArray := prog_18_method_6_code
def yJxe99ae_isNaN_b9ae7 : MethodName := ⟨RJxe99ae, "isNaN", "(D)Z"⟩
abbrev cJxe99ae_doubleToLongBits_ccdee : ByteArray := prog_18_method_23_code
def yJxe99ae_doubleToLongBits_ccdee : MethodName := ⟨RJxe99ae, "doubleToLongBits", "(D)J"⟩
def RJxf58ca : String := "java/lang/Float"
def TJxf58ca : u_T := fun k => match k with
  | _ => ("", "", "", false)
def tyJxf58ca : Nat → FieldType := fun k => match k with
  | _ => .int
theorem nmJxf58ca : ∀ a, a < 0 → ∀ b, b < 0 → a ≠ b → (TJxf58ca a).2.1 ≠ (TJxf58ca b).2.1 := by decide +kernel
theorem tyJxf58ca_ok : ∀ k, k < 0 → parseFieldDescriptor (TJxf58ca k).2.2.1 = some (tyJxf58ca k) := by decide +kernel
abbrev cJxf58ca_isNaN_12338 : ByteArray := prog_20_method_6_code
def yJxf58ca_isNaN_12338 : MethodName := ⟨RJxf58ca, "isNaN", "(F)Z"⟩
abbrev cJxf58ca_floatToIntBits_5c35a : ByteArray := prog_20_method_24_code
def yJxf58ca_floatToIntBits_5c35a : MethodName := ⟨RJxf58ca, "floatToIntBits", "(F)I"⟩
def RJ6 : String := "java/lang/Integer"
def TJ6 : u_T := fun k => match k with
  | _ => ("", "", "", false)
def tyJ6 : Nat → FieldType := fun k => match k with
  | _ => .int
theorem nmJ6 : ∀ a, a < 0 → ∀ b, b < 0 → a ≠ b → (TJ6 a).2.1 ≠ (TJ6 b).2.1 := by decide +kernel
theorem tyJ6_ok : ∀ k, k < 0 → parseFieldDescriptor (TJ6 k).2.2.1 = some (tyJ6 k) := by decide +kernel
abbrev cJ6_getChars_ba4f3 : ByteArray := prog_24_method_12_code
def yJ6_getChars_ba4f3 : MethodName := ⟨RJ6, "getChars", "(II[B)I"⟩
abbrev cJ6_stringSize_0f7a4 : ByteArray := prog_24_method_13_code
def yJ6_stringSize_0f7a4 : MethodName := ⟨RJ6, "stringSize", "(I)I"⟩
def RJ9 : String := "java/lang/Math"
def TJ9 : u_T := fun k => match k with
  | _ => ("", "", "", false)
def tyJ9 : Nat → FieldType := fun k => match k with
  | _ => .int
theorem nmJ9 : ∀ a, a < 0 → ∀ b, b < 0 → a ≠ b → (TJ9 a).2.1 ≠ (TJ9 b).2.1 := by decide +kernel
theorem tyJ9_ok : ∀ k, k < 0 → parseFieldDescriptor (TJ9 k).2.2.1 = some (tyJ9 k) := by decide +kernel
abbrev cJ9_max_7cf53 : ByteArray := prog_25_method_65_code
def yJ9_max_7cf53 : MethodName := ⟨RJ9, "max", "(II)I"⟩
abbrev cJ9_min_7cf53 : ByteArray := prog_25_method_69_code
def yJ9_min_7cf53 : MethodName := ⟨RJ9, "min", "(II)I"⟩
def RJxd2413 : String := "java/lang/Number"
def TJxd2413 : u_T := fun k => match k with
  | _ => ("", "", "", false)
def tyJxd2413 : Nat → FieldType := fun k => match k with
  | _ => .int
theorem nmJxd2413 : ∀ a, a < 0 → ∀ b, b < 0 → a ≠ b → (TJxd2413 a).2.1 ≠ (TJxd2413 b).2.1 := by decide +kernel
theorem tyJxd2413_ok : ∀ k, k < 0 → parseFieldDescriptor (TJxd2413 k).2.2.1 = some (tyJxd2413 k) := by decide +kernel
def RJ0 : String := "java/lang/String"
def TJ0 : u_T := fun k => match k with
  | 0 => ("java/lang/String", "value", "[B", true)
  | 1 => ("java/lang/String", "coder", "B", true)
  | 2 => ("java/lang/String", "hash", "I", false)
  | _ => ("java/lang/String", "hashIsZero", "Z", false)
def tyJ0 : Nat → FieldType := fun k => match k with
  | 0 => .array .byte
  | 1 => .byte
  | 2 => .int
  | _ => .boolean
theorem nmJ0 : ∀ a, a < 4 → ∀ b, b < 4 → a ≠ b → (TJ0 a).2.1 ≠ (TJ0 b).2.1 := by decide +kernel
theorem tyJ0_ok : ∀ k, k < 4 → parseFieldDescriptor (TJ0 k).2.2.1 = some (tyJ0 k) := by decide +kernel
abbrev cJ0_init_81219 : ByteArray := prog_28_method_53_code
def yJ0_init_81219 : MethodName := ⟨RJ0, "<init>", "(Ljava/lang/StringBuilder;)V"⟩
abbrev cJ0_length_8abf5 : ByteArray := prog_28_method_54_code
def yJ0_length_8abf5 : MethodName := ⟨RJ0, "length", "()I"⟩
abbrev cJ0_charAt_5068e : ByteArray := prog_28_method_56_code
def yJ0_charAt_5068e : MethodName := ⟨RJ0, "charAt", "(I)C"⟩
abbrev cJ0_getBytes_840e7 : ByteArray := prog_28_method_147_code
def yJ0_getBytes_840e7 : MethodName := ⟨RJ0, "getBytes", "([BIB)V"⟩
abbrev cJ0_init_db425 : ByteArray := prog_28_method_150_code
def yJ0_init_db425 : MethodName := ⟨RJ0, "<init>", "(Ljava/lang/AbstractStringBuilder;Ljava/lang/Void;)V"⟩
abbrev cJ0_coder_7d493 : ByteArray := prog_28_method_152_code
def yJ0_coder_7d493 : MethodName := ⟨RJ0, "coder", "()B"⟩
abbrev cJ0_isLatin1_aae02 : ByteArray := prog_28_method_154_code
def yJ0_isLatin1_aae02 : MethodName := ⟨RJ0, "isLatin1", "()Z"⟩
abbrev cJ0_checkIndex_df160 : ByteArray := prog_28_method_155_code
def yJ0_checkIndex_df160 : MethodName := ⟨RJ0, "checkIndex", "(II)V"⟩
abbrev cJ0_checkBoundsOffCount_cabcc : ByteArray := prog_28_method_157_code
def yJ0_checkBoundsOffCount_cabcc : MethodName := ⟨RJ0, "checkBoundsOffCount", "(III)I"⟩
abbrev cJ0_checkBoundsBeginEnd_23922 : ByteArray := prog_28_method_158_code
def yJ0_checkBoundsBeginEnd_23922 : MethodName := ⟨RJ0, "checkBoundsBeginEnd", "(III)V"⟩
def RJ4 : String := "java/lang/StringBuilder"
def TJ4 : u_T := fun k => match k with
  | 0 => ("java/lang/AbstractStringBuilder", "value", "[B", false)
  | 1 => ("java/lang/AbstractStringBuilder", "coder", "B", false)
  | 2 => ("java/lang/AbstractStringBuilder", "maybeLatin1", "Z", false)
  | _ => ("java/lang/AbstractStringBuilder", "count", "I", false)
def tyJ4 : Nat → FieldType := fun k => match k with
  | 0 => .array .byte
  | 1 => .byte
  | 2 => .boolean
  | _ => .int
theorem nmJ4 : ∀ a, a < 4 → ∀ b, b < 4 → a ≠ b → (TJ4 a).2.1 ≠ (TJ4 b).2.1 := by decide +kernel
theorem tyJ4_ok : ∀ k, k < 4 → parseFieldDescriptor (TJ4 k).2.2.1 = some (tyJ4 k) := by decide +kernel
abbrev cJ4_init_da8c8 : ByteArray := prog_29_method_1_code
def yJ4_init_da8c8 : MethodName := ⟨RJ4, "<init>", "()V"⟩
abbrev cJ4_append_15ec4 : ByteArray := prog_29_method_7_code
def yJ4_append_15ec4 : MethodName := ⟨RJ4, "append", "(Ljava/lang/String;)Ljava/lang/StringBuilder;"⟩
abbrev cJ4_append_bf812 : ByteArray := prog_29_method_15_code
def yJ4_append_bf812 : MethodName := ⟨RJ4, "append", "(I)Ljava/lang/StringBuilder;"⟩
abbrev cJ4_toString_0e30d : ByteArray := prog_29_method_42_code
def yJ4_toString_0e30d : MethodName := ⟨RJ4, "toString", "()Ljava/lang/String;"⟩
abbrev cJ4_length_8abf5 : ByteArray := prog_29_method_93_code
def yJ4_length_8abf5 : MethodName := ⟨RJ4, "length", "()I"⟩
def RJ1 : String := "java/lang/StringLatin1"
def TJ1 : u_T := fun k => match k with
  | _ => ("", "", "", false)
def tyJ1 : Nat → FieldType := fun k => match k with
  | _ => .int
theorem nmJ1 : ∀ a, a < 0 → ∀ b, b < 0 → a ≠ b → (TJ1 a).2.1 ≠ (TJ1 b).2.1 := by decide +kernel
theorem tyJ1_ok : ∀ k, k < 0 → parseFieldDescriptor (TJ1 k).2.2.1 = some (tyJ1 k) := by decide +kernel
abbrev cJ1_charAt_3b067 : ByteArray := prog_30_method_2_code
def yJ1_charAt_3b067 : MethodName := ⟨RJ1, "charAt", "([BI)C"⟩
abbrev cJ1_inflate_0e8fd : ByteArray := prog_30_method_50_code
def yJ1_inflate_0e8fd : MethodName := ⟨RJ1, "inflate", "([BI[BII)V"⟩
def RJ2 : String := "java/lang/StringUTF16"
def TJ2 : u_T := fun k => match k with
  | _ => ("", "", "", false)
def tyJ2 : Nat → FieldType := fun k => match k with
  | _ => .int
theorem nmJ2 : ∀ a, a < 0 → ∀ b, b < 0 → a ≠ b → (TJ2 a).2.1 ≠ (TJ2 b).2.1 := by decide +kernel
theorem tyJ2_ok : ∀ k, k < 0 → parseFieldDescriptor (TJ2 k).2.2.1 = some (tyJ2 k) := by decide +kernel
abbrev cJ2_newBytesFor_77867 : ByteArray := prog_31_method_2_code
def yJ2_newBytesFor_77867 : MethodName := ⟨RJ2, "newBytesFor", "(I)[B"⟩
abbrev cJ2_newBytesLength_0f7a4 : ByteArray := prog_31_method_3_code
def yJ2_newBytesLength_0f7a4 : MethodName := ⟨RJ2, "newBytesLength", "(I)I"⟩
abbrev cJ2_putChar_b72d1 : ByteArray := prog_31_method_4_code
def yJ2_putChar_b72d1 : MethodName := ⟨RJ2, "putChar", "([BII)V"⟩
abbrev cJ2_getChar_3b067 : ByteArray := prog_31_method_5_code
def yJ2_getChar_3b067 : MethodName := ⟨RJ2, "getChar", "([BI)C"⟩
abbrev cJ2_length_9d52b : ByteArray := prog_31_method_6_code
def yJ2_length_9d52b : MethodName := ⟨RJ2, "length", "([B)I"⟩
abbrev cJ2_coderFromArrayLen_85cad : ByteArray := prog_31_method_15_code
def yJ2_coderFromArrayLen_85cad : MethodName := ⟨RJ2, "coderFromArrayLen", "([BI)B"⟩
abbrev cJ2_compress_39247 : ByteArray := prog_31_method_17_code
def yJ2_compress_39247 : MethodName := ⟨RJ2, "compress", "([BII)[B"⟩
abbrev cJ2_compress_5af95 : ByteArray := prog_31_method_22_code
def yJ2_compress_5af95 : MethodName := ⟨RJ2, "compress", "([BI[BII)I"⟩
abbrev cJ2_getChars_46870 : ByteArray := prog_31_method_77_code
def yJ2_getChars_46870 : MethodName := ⟨RJ2, "getChars", "(III[B)I"⟩
abbrev cJ2_putCharsAt_cd4e5 : ByteArray := prog_31_method_81_code
def yJ2_putCharsAt_cd4e5 : MethodName := ⟨RJ2, "putCharsAt", "([BICCCC)I"⟩
abbrev cJ2_charAt_3b067 : ByteArray := prog_31_method_83_code
def yJ2_charAt_3b067 : MethodName := ⟨RJ2, "charAt", "([BI)C"⟩
abbrev cJ2_inflate_0e8fd : ByteArray := prog_31_method_86_code
def yJ2_inflate_0e8fd : MethodName := ⟨RJ2, "inflate", "([BI[BII)V"⟩
abbrev cJ2_getChars_ba4f3 : ByteArray := prog_31_method_89_code
def yJ2_getChars_ba4f3 : MethodName := ⟨RJ2, "getChars", "(II[B)I"⟩
abbrev cJ2_checkIndex_2214a : ByteArray := prog_31_method_91_code
def yJ2_checkIndex_2214a : MethodName := ⟨RJ2, "checkIndex", "(I[B)V"⟩
abbrev cJ2_checkBoundsBeginEnd_d044e : ByteArray := prog_31_method_93_code
def yJ2_checkBoundsBeginEnd_d044e : MethodName := ⟨RJ2, "checkBoundsBeginEnd", "(II[B)V"⟩
abbrev cJ2_checkBoundsOffCount_d044e : ByteArray := prog_31_method_94_code
def yJ2_checkBoundsOffCount_d044e : MethodName := ⟨RJ2, "checkBoundsOffCount", "(II[B)V"⟩
def RJ10 : String := "java/lang/System"
def TJ10 : u_T := fun k => match k with
  | _ => ("", "", "", false)
def tyJ10 : Nat → FieldType := fun k => match k with
  | _ => .int
theorem nmJ10 : ∀ a, a < 0 → ∀ b, b < 0 → a ≠ b → (TJ10 a).2.1 ≠ (TJ10 b).2.1 := by decide +kernel
theorem tyJ10_ok : ∀ k, k < 0 → parseFieldDescriptor (TJ10 k).2.2.1 = some (tyJ10 k) := by decide +kernel
def RJxfd54e : String := "java/lang/constant/Constable"
def TJxfd54e : u_T := fun k => match k with
  | _ => ("", "", "", false)
def tyJxfd54e : Nat → FieldType := fun k => match k with
  | _ => .int
theorem nmJxfd54e : ∀ a, a < 0 → ∀ b, b < 0 → a ≠ b → (TJxfd54e a).2.1 ≠ (TJxfd54e b).2.1 := by decide +kernel
theorem tyJxfd54e_ok : ∀ k, k < 0 → parseFieldDescriptor (TJxfd54e k).2.2.1 = some (tyJxfd54e k) := by decide +kernel
def RJx3cf43 : String := "java/lang/constant/ConstantDesc"
def TJx3cf43 : u_T := fun k => match k with
  | _ => ("", "", "", false)
def tyJx3cf43 : Nat → FieldType := fun k => match k with
  | _ => .int
theorem nmJx3cf43 : ∀ a, a < 0 → ∀ b, b < 0 → a ≠ b → (TJx3cf43 a).2.1 ≠ (TJx3cf43 b).2.1 := by decide +kernel
theorem tyJx3cf43_ok : ∀ k, k < 0 → parseFieldDescriptor (TJx3cf43 k).2.2.1 = some (tyJx3cf43 k) := by decide +kernel
def RJ7 : String := "java/util/Arrays"
def TJ7 : u_T := fun k => match k with
  | _ => ("", "", "", false)
def tyJ7 : Nat → FieldType := fun k => match k with
  | _ => .int
theorem nmJ7 : ∀ a, a < 0 → ∀ b, b < 0 → a ≠ b → (TJ7 a).2.1 ≠ (TJ7 b).2.1 := by decide +kernel
theorem tyJ7_ok : ∀ k, k < 0 → parseFieldDescriptor (TJ7 k).2.2.1 = some (tyJ7 k) := by decide +kernel
abbrev cJ7_copyOf_9075b : ByteArray := prog_37_method_121_code
def yJ7_copyOf_9075b : MethodName := ⟨RJ7, "copyOf", "([BI)[B"⟩
abbrev cJ7_checkLength_df160 : ByteArray := prog_37_method_131_code
def yJ7_checkLength_df160 : MethodName := ⟨RJ7, "checkLength", "(II)V"⟩
abbrev cJ7_copyOfRange_39247 : ByteArray := prog_37_method_132_code
def yJ7_copyOfRange_39247 : MethodName := ⟨RJ7, "copyOfRange", "([BII)[B"⟩
abbrev cJ7_copyOfRangeByte_39247 : ByteArray := prog_37_method_133_code
def yJ7_copyOfRangeByte_39247 : MethodName := ⟨RJ7, "copyOfRangeByte", "([BII)[B"⟩
def RJ8 : String := "jdk/internal/util/ArraysSupport"
def TJ8 : u_T := fun k => match k with
  | _ => ("", "", "", false)
def tyJ8 : Nat → FieldType := fun k => match k with
  | _ => .int
theorem nmJ8 : ∀ a, a < 0 → ∀ b, b < 0 → a ≠ b → (TJ8 a).2.1 ≠ (TJ8 b).2.1 := by decide +kernel
theorem tyJ8_ok : ∀ k, k < 0 → parseFieldDescriptor (TJ8 k).2.2.1 = some (tyJ8 k) := by decide +kernel
abbrev cJ8_newLength_cabcc : ByteArray := prog_39_method_27_code
def yJ8_newLength_cabcc : MethodName := ⟨RJ8, "newLength", "(III)I"⟩
abbrev cJ8_hugeLength_7cf53 : ByteArray := prog_39_method_28_code
def yJ8_hugeLength_7cf53 : MethodName := ⟨RJ8, "hugeLength", "(II)I"⟩
def RJ3 : String := "jdk/internal/util/Preconditions"
def TJ3 : u_T := fun k => match k with
  | _ => ("", "", "", false)
def tyJ3 : Nat → FieldType := fun k => match k with
  | _ => .int
theorem nmJ3 : ∀ a, a < 0 → ∀ b, b < 0 → a ≠ b → (TJ3 a).2.1 ≠ (TJ3 b).2.1 := by decide +kernel
theorem tyJ3_ok : ∀ k, k < 0 → parseFieldDescriptor (TJ3 k).2.2.1 = some (tyJ3 k) := by decide +kernel
abbrev cJ3_checkIndex_8e157 : ByteArray := prog_40_method_11_code
def yJ3_checkIndex_8e157 : MethodName := ⟨RJ3, "checkIndex", "(IILjava/util/function/BiFunction;)I"⟩
abbrev cJ3_checkFromToIndex_8c36e : ByteArray := prog_40_method_12_code
def yJ3_checkFromToIndex_8c36e : MethodName := ⟨RJ3, "checkFromToIndex", "(IIILjava/util/function/BiFunction;)I"⟩
abbrev cJ3_checkFromIndexSize_8c36e : ByteArray := prog_40_method_13_code
def yJ3_checkFromIndexSize_8c36e : MethodName := ⟨RJ3, "checkFromIndexSize", "(IIILjava/util/function/BiFunction;)I"⟩
def RL : String := "IceConvoysLaw"
abbrev cL_cell : ByteArray := method_2_code
def yL_cell : MethodName := ⟨RL, "cell", "([II)I"⟩
abbrev cL_set : ByteArray := method_3_code
def yL_set : MethodName := ⟨RL, "set", "(LIceConvoys;II)I"⟩
abbrev cL_drill : ByteArray := method_4_code
def yL_drill : MethodName := ⟨RL, "drill", "(LIceConvoys;I)I"⟩
abbrev cL_drilled : ByteArray := method_5_code
def yL_drilled : MethodName := ⟨RL, "drilled", "(LIceConvoys;I)I"⟩
abbrev cL_mileOf : ByteArray := method_6_code
def yL_mileOf : MethodName := ⟨RL, "mileOf", "(LIceConvoys;II)I"⟩
abbrev cL_truck : ByteArray := method_7_code
def yL_truck : MethodName := ⟨RL, "truck", "(LIceConvoys;IIII)I"⟩
abbrev cL_inRow : ByteArray := method_8_code
def yL_inRow : MethodName := ⟨RL, "inRow", "(LIceConvoys;III)I"⟩
abbrev cL_convoy : ByteArray := method_9_code
def yL_convoy : MethodName := ⟨RL, "convoy", "(LIceConvoys;I)I"⟩
abbrev cL_join : ByteArray := method_10_code
def yL_join : MethodName := ⟨RL, "join", "(LIceConvoys;III)I"⟩
abbrev cL_start : ByteArray := method_11_code
def yL_start : MethodName := ⟨RL, "start", "(LIceConvoys;I)I"⟩
abbrev cL_roll : ByteArray := method_12_code
def yL_roll : MethodName := ⟨RL, "roll", "(LIceConvoys;I)I"⟩
abbrev cL_why : ByteArray := method_13_code
def yL_why : MethodName := ⟨RL, "why", "(LIceConvoys;IZ)I"⟩
abbrev cL_convoyOf : ByteArray := method_14_code
def yL_convoyOf : MethodName := ⟨RL, "convoyOf", "(LIceConvoys;II)I"⟩
abbrev cL_truckOf : ByteArray := method_15_code
def yL_truckOf : MethodName := ⟨RL, "truckOf", "(LIceConvoys;III)I"⟩
abbrev cL_at : ByteArray := method_16_code
def yL_at : MethodName := ⟨RL, "at", "(LIceConvoys;I)I"⟩
abbrev cL_rolls : ByteArray := method_17_code
def yL_rolls : MethodName := ⟨RL, "rolls", "(LIceConvoys;IZ)I"⟩
abbrev cL_iceIn : ByteArray := method_18_code
def yL_iceIn : MethodName := ⟨RL, "iceIn", "(LIceConvoys;II)I"⟩
abbrev cL_bearsIn : ByteArray := method_19_code
def yL_bearsIn : MethodName := ⟨RL, "bearsIn", "(LIceConvoys;II)I"⟩
abbrev cL_pass : ByteArray := method_20_code
def yL_pass : MethodName := ⟨RL, "pass", "(LIceConvoys;I)I"⟩
abbrev cL_refusal : ByteArray := method_21_code
def yL_refusal : MethodName := ⟨RL, "refusal", "(LIceConvoys;Z)I"⟩
abbrev cL_append : ByteArray := method_22_code
def yL_append : MethodName := ⟨RL, "append", "(LIceConvoys;C)I"⟩
abbrev cL_does : ByteArray := method_23_code
def yL_does : MethodName := ⟨RL, "does", "(LIceConvoys;)I"⟩
abbrev cL_read : ByteArray := method_24_code
def yL_read : MethodName := ⟨RL, "read", "(LIceConvoys;Ljava/lang/String;)I"⟩
abbrev cL_undo : ByteArray := method_25_code
def yL_undo : MethodName := ⟨RL, "undo", "(LIceConvoys;)I"⟩
abbrev cL_bears : ByteArray := method_26_code
def yL_bears : MethodName := ⟨RL, "bears", "(LIceConvoys;I)F"⟩
abbrev cL_drawn : ByteArray := method_27_code
def yL_drawn : MethodName := ⟨RL, "drawn", "([I)LIceConvoys;"⟩
abbrev cL_law : ByteArray := code
def yL_law : MethodName := ⟨RL, "law", "([I)Z"⟩
abbrev cL_miles : ByteArray := method_29_code
def yL_miles : MethodName := ⟨RL, "miles", "(LIceConvoys;)Z"⟩
abbrev cL_sums : ByteArray := method_30_code
def yL_sums : MethodName := ⟨RL, "sums", "(LIceConvoys;)Z"⟩
abbrev cL_expected : ByteArray := method_31_code
def yL_expected : MethodName := ⟨RL, "expected", "(LIceConvoys;II)I"⟩
abbrev cL_reasons : ByteArray := method_32_code
def yL_reasons : MethodName := ⟨RL, "reasons", "(LIceConvoys;)Z"⟩
abbrev cL_ahead : ByteArray := method_33_code
def yL_ahead : MethodName := ⟨RL, "ahead", "([ILIceConvoys;)Z"⟩
abbrev cL_sum : ByteArray := method_34_code
def yL_sum : MethodName := ⟨RL, "sum", "(LIceConvoys;)J"⟩
abbrev cL_undone : ByteArray := method_35_code
def yL_undone : MethodName := ⟨RL, "undone", "([ILIceConvoys;)Z"⟩
theorem dX0_init_0 : decode cX0_init 0 = .ok (.aload_n 0, 1) := by decide +kernel
theorem dX0_init_1 : decode cX0_init 1 = .ok (.invokespecial 3, 3) := by decide +kernel
theorem dX0_init_4 : decode cX0_init 4 = .ok (.aload_n 0, 1) := by decide +kernel
theorem dX0_init_5 : decode cX0_init 5 = .ok (.iconst 1, 1) := by decide +kernel
theorem dX0_init_6 : decode cX0_init 6 = .ok (.putfield 9, 3) := by decide +kernel
theorem dX0_init_9 : decode cX0_init 9 = .ok (.aload_n 0, 1) := by decide +kernel
theorem dX0_init_10 : decode cX0_init 10 = .ok (.iconst (-1), 1) := by decide +kernel
theorem dX0_init_11 : decode cX0_init 11 = .ok (.putfield 15, 3) := by decide +kernel
theorem dX0_init_14 : decode cX0_init 14 = .ok (.aload_n 0, 1) := by decide +kernel
theorem dX0_init_15 : decode cX0_init 15 = .ok (.iconst 0, 1) := by decide +kernel
theorem dX0_init_16 : decode cX0_init 16 = .ok (.putfield 18, 3) := by decide +kernel
theorem dX0_init_19 : decode cX0_init 19 = .ok (.aload_n 0, 1) := by decide +kernel
theorem dX0_init_20 : decode cX0_init 20 = .ok (.iconst 4, 1) := by decide +kernel
theorem dX0_init_21 : decode cX0_init 21 = .ok (.anewarray 21, 3) := by decide +kernel
theorem dX0_init_24 : decode cX0_init 24 = .ok (.putfield 23, 3) := by decide +kernel
theorem dX0_init_27 : decode cX0_init 27 = .ok (.return_, 1) := by decide +kernel
theorem dX0_copyFrom_0 : decode cX0_copyFrom 0 = .ok (.aload_n 0, 1) := by decide +kernel
theorem dX0_copyFrom_1 : decode cX0_copyFrom 1 = .ok (.aload_n 1, 1) := by decide +kernel
theorem dX0_copyFrom_2 : decode cX0_copyFrom 2 = .ok (.getfield 9, 3) := by decide +kernel
theorem dX0_copyFrom_5 : decode cX0_copyFrom 5 = .ok (.putfield 9, 3) := by decide +kernel
theorem dX0_copyFrom_8 : decode cX0_copyFrom 8 = .ok (.aload_n 0, 1) := by decide +kernel
theorem dX0_copyFrom_9 : decode cX0_copyFrom 9 = .ok (.aload_n 1, 1) := by decide +kernel
theorem dX0_copyFrom_10 : decode cX0_copyFrom 10 = .ok (.getfield 15, 3) := by decide +kernel
theorem dX0_copyFrom_13 : decode cX0_copyFrom 13 = .ok (.putfield 15, 3) := by decide +kernel
theorem dX0_copyFrom_16 : decode cX0_copyFrom 16 = .ok (.aload_n 0, 1) := by decide +kernel
theorem dX0_copyFrom_17 : decode cX0_copyFrom 17 = .ok (.aload_n 1, 1) := by decide +kernel
theorem dX0_copyFrom_18 : decode cX0_copyFrom 18 = .ok (.getfield 18, 3) := by decide +kernel
theorem dX0_copyFrom_21 : decode cX0_copyFrom 21 = .ok (.putfield 18, 3) := by decide +kernel
theorem dX0_copyFrom_24 : decode cX0_copyFrom 24 = .ok (.iconst 0, 1) := by decide +kernel
theorem dX0_copyFrom_25 : decode cX0_copyFrom 25 = .ok (.istore_n 2, 1) := by decide +kernel
theorem dX0_copyFrom_26 : decode cX0_copyFrom 26 = .ok (.iload_n 2, 1) := by decide +kernel
theorem dX0_copyFrom_27 : decode cX0_copyFrom 27 = .ok (.iconst 4, 1) := by decide +kernel
theorem dX0_copyFrom_28 : decode cX0_copyFrom 28 = .ok (.if_icmp .ge 21, 3) := by decide +kernel
theorem dX0_copyFrom_31 : decode cX0_copyFrom 31 = .ok (.aload_n 0, 1) := by decide +kernel
theorem dX0_copyFrom_32 : decode cX0_copyFrom 32 = .ok (.getfield 23, 3) := by decide +kernel
theorem dX0_copyFrom_35 : decode cX0_copyFrom 35 = .ok (.iload_n 2, 1) := by decide +kernel
theorem dX0_copyFrom_36 : decode cX0_copyFrom 36 = .ok (.aload_n 1, 1) := by decide +kernel
theorem dX0_copyFrom_37 : decode cX0_copyFrom 37 = .ok (.getfield 23, 3) := by decide +kernel
theorem dX0_copyFrom_40 : decode cX0_copyFrom 40 = .ok (.iload_n 2, 1) := by decide +kernel
theorem dX0_copyFrom_41 : decode cX0_copyFrom 41 = .ok (.aaload, 1) := by decide +kernel
theorem dX0_copyFrom_42 : decode cX0_copyFrom 42 = .ok (.aastore, 1) := by decide +kernel
theorem dX0_copyFrom_43 : decode cX0_copyFrom 43 = .ok (.iinc 2 1, 3) := by decide +kernel
theorem dX0_copyFrom_46 : decode cX0_copyFrom 46 = .ok (.goto (-20), 3) := by decide +kernel
theorem dX0_copyFrom_49 : decode cX0_copyFrom 49 = .ok (.return_, 1) := by decide +kernel
theorem dX0_hasStarted_0 : decode cX0_hasStarted 0 = .ok (.aload_n 0, 1) := by decide +kernel
theorem dX0_hasStarted_1 : decode cX0_hasStarted 1 = .ok (.getfield 15, 3) := by decide +kernel
theorem dX0_hasStarted_4 : decode cX0_hasStarted 4 = .ok (.ifCond .lt 7, 3) := by decide +kernel
theorem dX0_hasStarted_7 : decode cX0_hasStarted 7 = .ok (.iconst 1, 1) := by decide +kernel
theorem dX0_hasStarted_8 : decode cX0_hasStarted 8 = .ok (.goto 4, 3) := by decide +kernel
theorem dX0_hasStarted_11 : decode cX0_hasStarted 11 = .ok (.iconst 0, 1) := by decide +kernel
theorem dX0_hasStarted_12 : decode cX0_hasStarted 12 = .ok (.ireturn, 1) := by decide +kernel
theorem dX0_isDone_0 : decode cX0_isDone 0 = .ok (.aload_n 0, 1) := by decide +kernel
theorem dX0_isDone_1 : decode cX0_isDone 1 = .ok (.invokevirtual 27, 3) := by decide +kernel
theorem dX0_isDone_4 : decode cX0_isDone 4 = .ok (.ifCond .eq 18, 3) := by decide +kernel
theorem dX0_isDone_7 : decode cX0_isDone 7 = .ok (.aload_n 0, 1) := by decide +kernel
theorem dX0_isDone_8 : decode cX0_isDone 8 = .ok (.invokevirtual 31, 3) := by decide +kernel
theorem dX0_isDone_11 : decode cX0_isDone 11 = .ok (.aload_n 0, 1) := by decide +kernel
theorem dX0_isDone_12 : decode cX0_isDone 12 = .ok (.getfield 18, 3) := by decide +kernel
theorem dX0_isDone_15 : decode cX0_isDone 15 = .ok (.if_icmp .ne 7, 3) := by decide +kernel
theorem dX0_isDone_18 : decode cX0_isDone 18 = .ok (.iconst 1, 1) := by decide +kernel
theorem dX0_isDone_19 : decode cX0_isDone 19 = .ok (.goto 4, 3) := by decide +kernel
theorem dX0_isDone_22 : decode cX0_isDone 22 = .ok (.iconst 0, 1) := by decide +kernel
theorem dX0_isDone_23 : decode cX0_isDone 23 = .ok (.ireturn, 1) := by decide +kernel
theorem dX0_mileWithLead_0 : decode cX0_mileWithLead 0 = .ok (.iload_n 2, 1) := by decide +kernel
theorem dX0_mileWithLead_1 : decode cX0_mileWithLead 1 = .ok (.iload_n 1, 1) := by decide +kernel
theorem dX0_mileWithLead_2 : decode cX0_mileWithLead 2 = .ok (.aload_n 0, 1) := by decide +kernel
theorem dX0_mileWithLead_3 : decode cX0_mileWithLead 3 = .ok (.getfield 9, 3) := by decide +kernel
theorem dX0_mileWithLead_6 : decode cX0_mileWithLead 6 = .ok (.iconst 1, 1) := by decide +kernel
theorem dX0_mileWithLead_7 : decode cX0_mileWithLead 7 = .ok (.iadd, 1) := by decide +kernel
theorem dX0_mileWithLead_8 : decode cX0_mileWithLead 8 = .ok (.imul, 1) := by decide +kernel
theorem dX0_mileWithLead_9 : decode cX0_mileWithLead 9 = .ok (.isub, 1) := by decide +kernel
theorem dX0_mileWithLead_10 : decode cX0_mileWithLead 10 = .ok (.ireturn, 1) := by decide +kernel
theorem dX0_mileOfTruck_0 : decode cX0_mileOfTruck 0 = .ok (.aload_n 0, 1) := by decide +kernel
theorem dX0_mileOfTruck_1 : decode cX0_mileOfTruck 1 = .ok (.invokevirtual 27, 3) := by decide +kernel
theorem dX0_mileOfTruck_4 : decode cX0_mileOfTruck 4 = .ok (.ifCond .eq 15, 3) := by decide +kernel
theorem dX0_mileOfTruck_7 : decode cX0_mileOfTruck 7 = .ok (.aload_n 0, 1) := by decide +kernel
theorem dX0_mileOfTruck_8 : decode cX0_mileOfTruck 8 = .ok (.iload_n 1, 1) := by decide +kernel
theorem dX0_mileOfTruck_9 : decode cX0_mileOfTruck 9 = .ok (.aload_n 0, 1) := by decide +kernel
theorem dX0_mileOfTruck_10 : decode cX0_mileOfTruck 10 = .ok (.getfield 15, 3) := by decide +kernel
theorem dX0_mileOfTruck_13 : decode cX0_mileOfTruck 13 = .ok (.invokevirtual 35, 3) := by decide +kernel
theorem dX0_mileOfTruck_16 : decode cX0_mileOfTruck 16 = .ok (.goto 4, 3) := by decide +kernel
theorem dX0_mileOfTruck_19 : decode cX0_mileOfTruck 19 = .ok (.iconst (-1), 1) := by decide +kernel
theorem dX0_mileOfTruck_20 : decode cX0_mileOfTruck 20 = .ok (.ireturn, 1) := by decide +kernel
theorem dX0_countOnRoad_0 : decode cX0_countOnRoad 0 = .ok (.iconst 0, 1) := by decide +kernel
theorem dX0_countOnRoad_1 : decode cX0_countOnRoad 1 = .ok (.istore_n 1, 1) := by decide +kernel
theorem dX0_countOnRoad_2 : decode cX0_countOnRoad 2 = .ok (.iconst 0, 1) := by decide +kernel
theorem dX0_countOnRoad_3 : decode cX0_countOnRoad 3 = .ok (.istore_n 2, 1) := by decide +kernel
theorem dX0_countOnRoad_4 : decode cX0_countOnRoad 4 = .ok (.iload_n 2, 1) := by decide +kernel
theorem dX0_countOnRoad_5 : decode cX0_countOnRoad 5 = .ok (.aload_n 0, 1) := by decide +kernel
theorem dX0_countOnRoad_6 : decode cX0_countOnRoad 6 = .ok (.getfield 18, 3) := by decide +kernel
theorem dX0_countOnRoad_9 : decode cX0_countOnRoad 9 = .ok (.if_icmp .ge 23, 3) := by decide +kernel
theorem dX0_countOnRoad_12 : decode cX0_countOnRoad 12 = .ok (.aload_n 0, 1) := by decide +kernel
theorem dX0_countOnRoad_13 : decode cX0_countOnRoad 13 = .ok (.iload_n 2, 1) := by decide +kernel
theorem dX0_countOnRoad_14 : decode cX0_countOnRoad 14 = .ok (.invokevirtual 39, 3) := by decide +kernel
theorem dX0_countOnRoad_17 : decode cX0_countOnRoad 17 = .ok (.invokestatic 43, 3) := by decide +kernel
theorem dX0_countOnRoad_20 : decode cX0_countOnRoad 20 = .ok (.ifCond .eq 6, 3) := by decide +kernel
theorem dX0_countOnRoad_23 : decode cX0_countOnRoad 23 = .ok (.iinc 1 1, 3) := by decide +kernel
theorem dX0_countOnRoad_26 : decode cX0_countOnRoad 26 = .ok (.iinc 2 1, 3) := by decide +kernel
theorem dX0_countOnRoad_29 : decode cX0_countOnRoad 29 = .ok (.goto (-25), 3) := by decide +kernel
theorem dX0_countOnRoad_32 : decode cX0_countOnRoad 32 = .ok (.iload_n 1, 1) := by decide +kernel
theorem dX0_countOnRoad_33 : decode cX0_countOnRoad 33 = .ok (.ireturn, 1) := by decide +kernel
theorem dX0_countArrived_0 : decode cX0_countArrived 0 = .ok (.iconst 0, 1) := by decide +kernel
theorem dX0_countArrived_1 : decode cX0_countArrived 1 = .ok (.istore_n 1, 1) := by decide +kernel
theorem dX0_countArrived_2 : decode cX0_countArrived 2 = .ok (.iconst 0, 1) := by decide +kernel
theorem dX0_countArrived_3 : decode cX0_countArrived 3 = .ok (.istore_n 2, 1) := by decide +kernel
theorem dX0_countArrived_4 : decode cX0_countArrived 4 = .ok (.iload_n 2, 1) := by decide +kernel
theorem dX0_countArrived_5 : decode cX0_countArrived 5 = .ok (.aload_n 0, 1) := by decide +kernel
theorem dX0_countArrived_6 : decode cX0_countArrived 6 = .ok (.getfield 18, 3) := by decide +kernel
theorem dX0_countArrived_9 : decode cX0_countArrived 9 = .ok (.if_icmp .ge 22, 3) := by decide +kernel
theorem dX0_countArrived_12 : decode cX0_countArrived 12 = .ok (.aload_n 0, 1) := by decide +kernel
theorem dX0_countArrived_13 : decode cX0_countArrived 13 = .ok (.iload_n 2, 1) := by decide +kernel
theorem dX0_countArrived_14 : decode cX0_countArrived 14 = .ok (.invokevirtual 39, 3) := by decide +kernel
theorem dX0_countArrived_17 : decode cX0_countArrived 17 = .ok (.bipush 12, 2) := by decide +kernel
theorem dX0_countArrived_19 : decode cX0_countArrived 19 = .ok (.if_icmp .lt 6, 3) := by decide +kernel
theorem dX0_countArrived_22 : decode cX0_countArrived 22 = .ok (.iinc 1 1, 3) := by decide +kernel
theorem dX0_countArrived_25 : decode cX0_countArrived 25 = .ok (.iinc 2 1, 3) := by decide +kernel
theorem dX0_countArrived_28 : decode cX0_countArrived 28 = .ok (.goto (-24), 3) := by decide +kernel
theorem dX0_countArrived_31 : decode cX0_countArrived 31 = .ok (.iload_n 1, 1) := by decide +kernel
theorem dX0_countArrived_32 : decode cX0_countArrived 32 = .ok (.ireturn, 1) := by decide +kernel
theorem dX0_placeAt_0 : decode cX0_placeAt 0 = .ok (.iconst 0, 1) := by decide +kernel
theorem dX0_placeAt_1 : decode cX0_placeAt 1 = .ok (.istore_n 2, 1) := by decide +kernel
theorem dX0_placeAt_2 : decode cX0_placeAt 2 = .ok (.iload_n 2, 1) := by decide +kernel
theorem dX0_placeAt_3 : decode cX0_placeAt 3 = .ok (.aload_n 0, 1) := by decide +kernel
theorem dX0_placeAt_4 : decode cX0_placeAt 4 = .ok (.getfield 18, 3) := by decide +kernel
theorem dX0_placeAt_7 : decode cX0_placeAt 7 = .ok (.if_icmp .ge 24, 3) := by decide +kernel
theorem dX0_placeAt_10 : decode cX0_placeAt 10 = .ok (.aload_n 0, 1) := by decide +kernel
theorem dX0_placeAt_11 : decode cX0_placeAt 11 = .ok (.iload_n 2, 1) := by decide +kernel
theorem dX0_placeAt_12 : decode cX0_placeAt 12 = .ok (.aload_n 0, 1) := by decide +kernel
theorem dX0_placeAt_13 : decode cX0_placeAt 13 = .ok (.getfield 15, 3) := by decide +kernel
theorem dX0_placeAt_16 : decode cX0_placeAt 16 = .ok (.invokevirtual 35, 3) := by decide +kernel
theorem dX0_placeAt_19 : decode cX0_placeAt 19 = .ok (.iload_n 1, 1) := by decide +kernel
theorem dX0_placeAt_20 : decode cX0_placeAt 20 = .ok (.if_icmp .ne 5, 3) := by decide +kernel
theorem dX0_placeAt_23 : decode cX0_placeAt 23 = .ok (.iload_n 2, 1) := by decide +kernel
theorem dX0_placeAt_24 : decode cX0_placeAt 24 = .ok (.ireturn, 1) := by decide +kernel
theorem dX0_placeAt_25 : decode cX0_placeAt 25 = .ok (.iinc 2 1, 3) := by decide +kernel
theorem dX0_placeAt_28 : decode cX0_placeAt 28 = .ok (.goto (-26), 3) := by decide +kernel
theorem dX0_placeAt_31 : decode cX0_placeAt 31 = .ok (.iconst (-1), 1) := by decide +kernel
theorem dX0_placeAt_32 : decode cX0_placeAt 32 = .ok (.ireturn, 1) := by decide +kernel
theorem dX0_tonnesNotArrived_0 : decode cX0_tonnesNotArrived 0 = .ok (.iconst 0, 1) := by decide +kernel
theorem dX0_tonnesNotArrived_1 : decode cX0_tonnesNotArrived 1 = .ok (.istore_n 1, 1) := by decide +kernel
theorem dX0_tonnesNotArrived_2 : decode cX0_tonnesNotArrived 2 = .ok (.iconst 0, 1) := by decide +kernel
theorem dX0_tonnesNotArrived_3 : decode cX0_tonnesNotArrived 3 = .ok (.istore_n 2, 1) := by decide +kernel
theorem dX0_tonnesNotArrived_4 : decode cX0_tonnesNotArrived 4 = .ok (.iload_n 2, 1) := by decide +kernel
theorem dX0_tonnesNotArrived_5 : decode cX0_tonnesNotArrived 5 = .ok (.iconst 4, 1) := by decide +kernel
theorem dX0_tonnesNotArrived_6 : decode cX0_tonnesNotArrived 6 = .ok (.if_icmp .ge 37, 3) := by decide +kernel
theorem dX0_tonnesNotArrived_9 : decode cX0_tonnesNotArrived 9 = .ok (.aload_n 0, 1) := by decide +kernel
theorem dX0_tonnesNotArrived_10 : decode cX0_tonnesNotArrived 10 = .ok (.getfield 23, 3) := by decide +kernel
theorem dX0_tonnesNotArrived_13 : decode cX0_tonnesNotArrived 13 = .ok (.iload_n 2, 1) := by decide +kernel
theorem dX0_tonnesNotArrived_14 : decode cX0_tonnesNotArrived 14 = .ok (.aaload, 1) := by decide +kernel
theorem dX0_tonnesNotArrived_15 : decode cX0_tonnesNotArrived 15 = .ok (.astore_n 3, 1) := by decide +kernel
theorem dX0_tonnesNotArrived_16 : decode cX0_tonnesNotArrived 16 = .ok (.aload_n 3, 1) := by decide +kernel
theorem dX0_tonnesNotArrived_17 : decode cX0_tonnesNotArrived 17 = .ok (.ifnull 20, 3) := by decide +kernel
theorem dX0_tonnesNotArrived_20 : decode cX0_tonnesNotArrived 20 = .ok (.aload_n 0, 1) := by decide +kernel
theorem dX0_tonnesNotArrived_21 : decode cX0_tonnesNotArrived 21 = .ok (.iload_n 2, 1) := by decide +kernel
theorem dX0_tonnesNotArrived_22 : decode cX0_tonnesNotArrived 22 = .ok (.invokevirtual 39, 3) := by decide +kernel
theorem dX0_tonnesNotArrived_25 : decode cX0_tonnesNotArrived 25 = .ok (.bipush 12, 2) := by decide +kernel
theorem dX0_tonnesNotArrived_27 : decode cX0_tonnesNotArrived 27 = .ok (.if_icmp .ge 10, 3) := by decide +kernel
theorem dX0_tonnesNotArrived_30 : decode cX0_tonnesNotArrived 30 = .ok (.iload_n 1, 1) := by decide +kernel
theorem dX0_tonnesNotArrived_31 : decode cX0_tonnesNotArrived 31 = .ok (.aload_n 3, 1) := by decide +kernel
theorem dX0_tonnesNotArrived_32 : decode cX0_tonnesNotArrived 32 = .ok (.getfield 47, 3) := by decide +kernel
theorem dX0_tonnesNotArrived_35 : decode cX0_tonnesNotArrived 35 = .ok (.iadd, 1) := by decide +kernel
theorem dX0_tonnesNotArrived_36 : decode cX0_tonnesNotArrived 36 = .ok (.istore_n 1, 1) := by decide +kernel
theorem dX0_tonnesNotArrived_37 : decode cX0_tonnesNotArrived 37 = .ok (.iinc 2 1, 3) := by decide +kernel
theorem dX0_tonnesNotArrived_40 : decode cX0_tonnesNotArrived 40 = .ok (.goto (-36), 3) := by decide +kernel
theorem dX0_tonnesNotArrived_43 : decode cX0_tonnesNotArrived 43 = .ok (.iload_n 1, 1) := by decide +kernel
theorem dX0_tonnesNotArrived_44 : decode cX0_tonnesNotArrived 44 = .ok (.ireturn, 1) := by decide +kernel
theorem dX0_strainAheadOf_0 : decode cX0_strainAheadOf 0 = .ok (.iconst 0, 1) := by decide +kernel
theorem dX0_strainAheadOf_1 : decode cX0_strainAheadOf 1 = .ok (.istore_n 3, 1) := by decide +kernel
theorem dX0_strainAheadOf_2 : decode cX0_strainAheadOf 2 = .ok (.iconst 0, 1) := by decide +kernel
theorem dX0_strainAheadOf_3 : decode cX0_strainAheadOf 3 = .ok (.istore 4, 2) := by decide +kernel
theorem dX0_strainAheadOf_5 : decode cX0_strainAheadOf 5 = .ok (.iload 4, 2) := by decide +kernel
theorem dX0_strainAheadOf_7 : decode cX0_strainAheadOf 7 = .ok (.iload_n 1, 1) := by decide +kernel
theorem dX0_strainAheadOf_8 : decode cX0_strainAheadOf 8 = .ok (.if_icmp .ge 47, 3) := by decide +kernel
theorem dX0_strainAheadOf_11 : decode cX0_strainAheadOf 11 = .ok (.iload 4, 2) := by decide +kernel
theorem dX0_strainAheadOf_13 : decode cX0_strainAheadOf 13 = .ok (.iconst 4, 1) := by decide +kernel
theorem dX0_strainAheadOf_14 : decode cX0_strainAheadOf 14 = .ok (.if_icmp .ge 41, 3) := by decide +kernel
theorem dX0_strainAheadOf_17 : decode cX0_strainAheadOf 17 = .ok (.aload_n 0, 1) := by decide +kernel
theorem dX0_strainAheadOf_18 : decode cX0_strainAheadOf 18 = .ok (.getfield 23, 3) := by decide +kernel
theorem dX0_strainAheadOf_21 : decode cX0_strainAheadOf 21 = .ok (.iload 4, 2) := by decide +kernel
theorem dX0_strainAheadOf_23 : decode cX0_strainAheadOf 23 = .ok (.aaload, 1) := by decide +kernel
theorem dX0_strainAheadOf_24 : decode cX0_strainAheadOf 24 = .ok (.astore 5, 2) := by decide +kernel
theorem dX0_strainAheadOf_26 : decode cX0_strainAheadOf 26 = .ok (.aload 5, 2) := by decide +kernel
theorem dX0_strainAheadOf_28 : decode cX0_strainAheadOf 28 = .ok (.ifnull 21, 3) := by decide +kernel
theorem dX0_strainAheadOf_31 : decode cX0_strainAheadOf 31 = .ok (.aload_n 0, 1) := by decide +kernel
theorem dX0_strainAheadOf_32 : decode cX0_strainAheadOf 32 = .ok (.iload 4, 2) := by decide +kernel
theorem dX0_strainAheadOf_34 : decode cX0_strainAheadOf 34 = .ok (.invokevirtual 39, 3) := by decide +kernel
theorem dX0_strainAheadOf_37 : decode cX0_strainAheadOf 37 = .ok (.iload_n 2, 1) := by decide +kernel
theorem dX0_strainAheadOf_38 : decode cX0_strainAheadOf 38 = .ok (.if_icmp .ge 11, 3) := by decide +kernel
theorem dX0_strainAheadOf_41 : decode cX0_strainAheadOf 41 = .ok (.iload_n 3, 1) := by decide +kernel
theorem dX0_strainAheadOf_42 : decode cX0_strainAheadOf 42 = .ok (.aload 5, 2) := by decide +kernel
theorem dX0_strainAheadOf_44 : decode cX0_strainAheadOf 44 = .ok (.invokevirtual 50, 3) := by decide +kernel
theorem dX0_strainAheadOf_47 : decode cX0_strainAheadOf 47 = .ok (.iadd, 1) := by decide +kernel
theorem dX0_strainAheadOf_48 : decode cX0_strainAheadOf 48 = .ok (.istore_n 3, 1) := by decide +kernel
theorem dX0_strainAheadOf_49 : decode cX0_strainAheadOf 49 = .ok (.iinc 4 1, 3) := by decide +kernel
theorem dX0_strainAheadOf_52 : decode cX0_strainAheadOf 52 = .ok (.goto (-47), 3) := by decide +kernel
theorem dX0_strainAheadOf_55 : decode cX0_strainAheadOf 55 = .ok (.iload_n 3, 1) := by decide +kernel
theorem dX0_strainAheadOf_56 : decode cX0_strainAheadOf 56 = .ok (.ireturn, 1) := by decide +kernel
theorem dX1_init_0 : decode cX1_init 0 = .ok (.aload_n 0, 1) := by decide +kernel
theorem dX1_init_1 : decode cX1_init 1 = .ok (.invokespecial 3, 3) := by decide +kernel
theorem dX1_init_4 : decode cX1_init 4 = .ok (.aload_n 0, 1) := by decide +kernel
theorem dX1_init_5 : decode cX1_init 5 = .ok (.bipush 8, 2) := by decide +kernel
theorem dX1_init_7 : decode cX1_init 7 = .ok (.anewarray 9, 3) := by decide +kernel
theorem dX1_init_10 : decode cX1_init 10 = .ok (.putfield 11, 3) := by decide +kernel
theorem dX1_init_13 : decode cX1_init 13 = .ok (.aload_n 0, 1) := by decide +kernel
theorem dX1_init_14 : decode cX1_init 14 = .ok (.iconst 0, 1) := by decide +kernel
theorem dX1_init_15 : decode cX1_init 15 = .ok (.putfield 17, 3) := by decide +kernel
theorem dX1_init_18 : decode cX1_init 18 = .ok (.aload_n 0, 1) := by decide +kernel
theorem dX1_init_19 : decode cX1_init 19 = .ok (.iconst 0, 1) := by decide +kernel
theorem dX1_init_20 : decode cX1_init 20 = .ok (.putfield 21, 3) := by decide +kernel
theorem dX1_init_23 : decode cX1_init 23 = .ok (.iconst 0, 1) := by decide +kernel
theorem dX1_init_24 : decode cX1_init 24 = .ok (.istore_n 1, 1) := by decide +kernel
theorem dX1_init_25 : decode cX1_init 25 = .ok (.iload_n 1, 1) := by decide +kernel
theorem dX1_init_26 : decode cX1_init 26 = .ok (.bipush 8, 2) := by decide +kernel
theorem dX1_init_28 : decode cX1_init 28 = .ok (.if_icmp .ge 22, 3) := by decide +kernel
theorem dX1_init_31 : decode cX1_init 31 = .ok (.aload_n 0, 1) := by decide +kernel
theorem dX1_init_32 : decode cX1_init 32 = .ok (.getfield 11, 3) := by decide +kernel
theorem dX1_init_35 : decode cX1_init 35 = .ok (.iload_n 1, 1) := by decide +kernel
theorem dX1_init_36 : decode cX1_init 36 = .ok (.new 9, 3) := by decide +kernel
theorem dX1_init_39 : decode cX1_init 39 = .ok (.dup, 1) := by decide +kernel
theorem dX1_init_40 : decode cX1_init 40 = .ok (.invokespecial 24, 3) := by decide +kernel
theorem dX1_init_43 : decode cX1_init 43 = .ok (.aastore, 1) := by decide +kernel
theorem dX1_init_44 : decode cX1_init 44 = .ok (.iinc 1 1, 3) := by decide +kernel
theorem dX1_init_47 : decode cX1_init 47 = .ok (.goto (-22), 3) := by decide +kernel
theorem dX1_init_50 : decode cX1_init 50 = .ok (.return_, 1) := by decide +kernel
theorem dX1_keep_0 : decode cX1_keep 0 = .ok (.aload_n 0, 1) := by decide +kernel
theorem dX1_keep_1 : decode cX1_keep 1 = .ok (.getfield 11, 3) := by decide +kernel
theorem dX1_keep_4 : decode cX1_keep 4 = .ok (.aload_n 0, 1) := by decide +kernel
theorem dX1_keep_5 : decode cX1_keep 5 = .ok (.getfield 17, 3) := by decide +kernel
theorem dX1_keep_8 : decode cX1_keep 8 = .ok (.aaload, 1) := by decide +kernel
theorem dX1_keep_9 : decode cX1_keep 9 = .ok (.aload_n 1, 1) := by decide +kernel
theorem dX1_keep_10 : decode cX1_keep 10 = .ok (.invokevirtual 25, 3) := by decide +kernel
theorem dX1_keep_13 : decode cX1_keep 13 = .ok (.aload_n 0, 1) := by decide +kernel
theorem dX1_keep_14 : decode cX1_keep 14 = .ok (.aload_n 0, 1) := by decide +kernel
theorem dX1_keep_15 : decode cX1_keep 15 = .ok (.getfield 17, 3) := by decide +kernel
theorem dX1_keep_18 : decode cX1_keep 18 = .ok (.iconst 1, 1) := by decide +kernel
theorem dX1_keep_19 : decode cX1_keep 19 = .ok (.iadd, 1) := by decide +kernel
theorem dX1_keep_20 : decode cX1_keep 20 = .ok (.bipush 8, 2) := by decide +kernel
theorem dX1_keep_22 : decode cX1_keep 22 = .ok (.irem, 1) := by decide +kernel
theorem dX1_keep_23 : decode cX1_keep 23 = .ok (.putfield 17, 3) := by decide +kernel
theorem dX1_keep_26 : decode cX1_keep 26 = .ok (.aload_n 0, 1) := by decide +kernel
theorem dX1_keep_27 : decode cX1_keep 27 = .ok (.aload_n 0, 1) := by decide +kernel
theorem dX1_keep_28 : decode cX1_keep 28 = .ok (.getfield 21, 3) := by decide +kernel
theorem dX1_keep_31 : decode cX1_keep 31 = .ok (.iconst 1, 1) := by decide +kernel
theorem dX1_keep_32 : decode cX1_keep 32 = .ok (.iadd, 1) := by decide +kernel
theorem dX1_keep_33 : decode cX1_keep 33 = .ok (.bipush 8, 2) := by decide +kernel
theorem dX1_keep_35 : decode cX1_keep 35 = .ok (.invokestatic 29, 3) := by decide +kernel
theorem dX1_keep_38 : decode cX1_keep 38 = .ok (.putfield 21, 3) := by decide +kernel
theorem dX1_keep_41 : decode cX1_keep 41 = .ok (.return_, 1) := by decide +kernel
theorem dX1_takeBack_0 : decode cX1_takeBack 0 = .ok (.aload_n 0, 1) := by decide +kernel
theorem dX1_takeBack_1 : decode cX1_takeBack 1 = .ok (.aload_n 0, 1) := by decide +kernel
theorem dX1_takeBack_2 : decode cX1_takeBack 2 = .ok (.getfield 17, 3) := by decide +kernel
theorem dX1_takeBack_5 : decode cX1_takeBack 5 = .ok (.bipush 8, 2) := by decide +kernel
theorem dX1_takeBack_7 : decode cX1_takeBack 7 = .ok (.iadd, 1) := by decide +kernel
theorem dX1_takeBack_8 : decode cX1_takeBack 8 = .ok (.iconst 1, 1) := by decide +kernel
theorem dX1_takeBack_9 : decode cX1_takeBack 9 = .ok (.isub, 1) := by decide +kernel
theorem dX1_takeBack_10 : decode cX1_takeBack 10 = .ok (.bipush 8, 2) := by decide +kernel
theorem dX1_takeBack_12 : decode cX1_takeBack 12 = .ok (.irem, 1) := by decide +kernel
theorem dX1_takeBack_13 : decode cX1_takeBack 13 = .ok (.putfield 17, 3) := by decide +kernel
theorem dX1_takeBack_16 : decode cX1_takeBack 16 = .ok (.aload_n 1, 1) := by decide +kernel
theorem dX1_takeBack_17 : decode cX1_takeBack 17 = .ok (.aload_n 0, 1) := by decide +kernel
theorem dX1_takeBack_18 : decode cX1_takeBack 18 = .ok (.getfield 11, 3) := by decide +kernel
theorem dX1_takeBack_21 : decode cX1_takeBack 21 = .ok (.aload_n 0, 1) := by decide +kernel
theorem dX1_takeBack_22 : decode cX1_takeBack 22 = .ok (.getfield 17, 3) := by decide +kernel
theorem dX1_takeBack_25 : decode cX1_takeBack 25 = .ok (.aaload, 1) := by decide +kernel
theorem dX1_takeBack_26 : decode cX1_takeBack 26 = .ok (.invokevirtual 25, 3) := by decide +kernel
theorem dX1_takeBack_29 : decode cX1_takeBack 29 = .ok (.aload_n 0, 1) := by decide +kernel
theorem dX1_takeBack_30 : decode cX1_takeBack 30 = .ok (.dup, 1) := by decide +kernel
theorem dX1_takeBack_31 : decode cX1_takeBack 31 = .ok (.getfield 21, 3) := by decide +kernel
theorem dX1_takeBack_34 : decode cX1_takeBack 34 = .ok (.iconst 1, 1) := by decide +kernel
theorem dX1_takeBack_35 : decode cX1_takeBack 35 = .ok (.isub, 1) := by decide +kernel
theorem dX1_takeBack_36 : decode cX1_takeBack 36 = .ok (.putfield 21, 3) := by decide +kernel
theorem dX1_takeBack_39 : decode cX1_takeBack 39 = .ok (.return_, 1) := by decide +kernel
theorem dX2_init_0 : decode cX2_init 0 = .ok (.aload_n 0, 1) := by decide +kernel
theorem dX2_init_1 : decode cX2_init 1 = .ok (.invokespecial 3, 3) := by decide +kernel
theorem dX2_init_4 : decode cX2_init 4 = .ok (.aload_n 0, 1) := by decide +kernel
theorem dX2_init_5 : decode cX2_init 5 = .ok (.ldc 9, 2) := by decide +kernel
theorem dX2_init_7 : decode cX2_init 7 = .ok (.putfield 10, 3) := by decide +kernel
theorem dX2_init_10 : decode cX2_init 10 = .ok (.aload_n 0, 1) := by decide +kernel
theorem dX2_init_11 : decode cX2_init 11 = .ok (.fconst 0, 1) := by decide +kernel
theorem dX2_init_12 : decode cX2_init 12 = .ok (.putfield 16, 3) := by decide +kernel
theorem dX2_init_15 : decode cX2_init 15 = .ok (.aload_n 0, 1) := by decide +kernel
theorem dX2_init_16 : decode cX2_init 16 = .ok (.iconst (-1), 1) := by decide +kernel
theorem dX2_init_17 : decode cX2_init 17 = .ok (.putfield 19, 3) := by decide +kernel
theorem dX2_init_20 : decode cX2_init 20 = .ok (.aload_n 0, 1) := by decide +kernel
theorem dX2_init_21 : decode cX2_init 21 = .ok (.iconst 0, 1) := by decide +kernel
theorem dX2_init_22 : decode cX2_init 22 = .ok (.putfield 23, 3) := by decide +kernel
theorem dX2_init_25 : decode cX2_init 25 = .ok (.aload_n 0, 1) := by decide +kernel
theorem dX2_init_26 : decode cX2_init 26 = .ok (.iconst 0, 1) := by decide +kernel
theorem dX2_init_27 : decode cX2_init 27 = .ok (.putfield 26, 3) := by decide +kernel
theorem dX2_init_30 : decode cX2_init 30 = .ok (.aload_n 0, 1) := by decide +kernel
theorem dX2_init_31 : decode cX2_init 31 = .ok (.iconst 0, 1) := by decide +kernel
theorem dX2_init_32 : decode cX2_init 32 = .ok (.putfield 29, 3) := by decide +kernel
theorem dX2_init_35 : decode cX2_init 35 = .ok (.return_, 1) := by decide +kernel
theorem dX2_copyFrom_0 : decode cX2_copyFrom 0 = .ok (.aload_n 0, 1) := by decide +kernel
theorem dX2_copyFrom_1 : decode cX2_copyFrom 1 = .ok (.aload_n 1, 1) := by decide +kernel
theorem dX2_copyFrom_2 : decode cX2_copyFrom 2 = .ok (.getfield 10, 3) := by decide +kernel
theorem dX2_copyFrom_5 : decode cX2_copyFrom 5 = .ok (.putfield 10, 3) := by decide +kernel
theorem dX2_copyFrom_8 : decode cX2_copyFrom 8 = .ok (.aload_n 0, 1) := by decide +kernel
theorem dX2_copyFrom_9 : decode cX2_copyFrom 9 = .ok (.aload_n 1, 1) := by decide +kernel
theorem dX2_copyFrom_10 : decode cX2_copyFrom 10 = .ok (.getfield 16, 3) := by decide +kernel
theorem dX2_copyFrom_13 : decode cX2_copyFrom 13 = .ok (.putfield 16, 3) := by decide +kernel
theorem dX2_copyFrom_16 : decode cX2_copyFrom 16 = .ok (.aload_n 0, 1) := by decide +kernel
theorem dX2_copyFrom_17 : decode cX2_copyFrom 17 = .ok (.aload_n 1, 1) := by decide +kernel
theorem dX2_copyFrom_18 : decode cX2_copyFrom 18 = .ok (.getfield 19, 3) := by decide +kernel
theorem dX2_copyFrom_21 : decode cX2_copyFrom 21 = .ok (.putfield 19, 3) := by decide +kernel
theorem dX2_copyFrom_24 : decode cX2_copyFrom 24 = .ok (.aload_n 0, 1) := by decide +kernel
theorem dX2_copyFrom_25 : decode cX2_copyFrom 25 = .ok (.aload_n 1, 1) := by decide +kernel
theorem dX2_copyFrom_26 : decode cX2_copyFrom 26 = .ok (.getfield 23, 3) := by decide +kernel
theorem dX2_copyFrom_29 : decode cX2_copyFrom 29 = .ok (.putfield 23, 3) := by decide +kernel
theorem dX2_copyFrom_32 : decode cX2_copyFrom 32 = .ok (.aload_n 0, 1) := by decide +kernel
theorem dX2_copyFrom_33 : decode cX2_copyFrom 33 = .ok (.aload_n 1, 1) := by decide +kernel
theorem dX2_copyFrom_34 : decode cX2_copyFrom 34 = .ok (.getfield 26, 3) := by decide +kernel
theorem dX2_copyFrom_37 : decode cX2_copyFrom 37 = .ok (.putfield 26, 3) := by decide +kernel
theorem dX2_copyFrom_40 : decode cX2_copyFrom 40 = .ok (.aload_n 0, 1) := by decide +kernel
theorem dX2_copyFrom_41 : decode cX2_copyFrom 41 = .ok (.aload_n 1, 1) := by decide +kernel
theorem dX2_copyFrom_42 : decode cX2_copyFrom 42 = .ok (.getfield 29, 3) := by decide +kernel
theorem dX2_copyFrom_45 : decode cX2_copyFrom 45 = .ok (.putfield 29, 3) := by decide +kernel
theorem dX2_copyFrom_48 : decode cX2_copyFrom 48 = .ok (.return_, 1) := by decide +kernel
theorem dX2_carry_0 : decode cX2_carry 0 = .ok (.aload_n 0, 1) := by decide +kernel
theorem dX2_carry_1 : decode cX2_carry 1 = .ok (.dup, 1) := by decide +kernel
theorem dX2_carry_2 : decode cX2_carry 2 = .ok (.getfield 29, 3) := by decide +kernel
theorem dX2_carry_5 : decode cX2_carry 5 = .ok (.iconst 1, 1) := by decide +kernel
theorem dX2_carry_6 : decode cX2_carry 6 = .ok (.iadd, 1) := by decide +kernel
theorem dX2_carry_7 : decode cX2_carry 7 = .ok (.putfield 29, 3) := by decide +kernel
theorem dX2_carry_10 : decode cX2_carry 10 = .ok (.aload_n 0, 1) := by decide +kernel
theorem dX2_carry_11 : decode cX2_carry 11 = .ok (.dup, 1) := by decide +kernel
theorem dX2_carry_12 : decode cX2_carry 12 = .ok (.getfield 26, 3) := by decide +kernel
theorem dX2_carry_15 : decode cX2_carry 15 = .ok (.aload_n 1, 1) := by decide +kernel
theorem dX2_carry_16 : decode cX2_carry 16 = .ok (.invokevirtual 32, 3) := by decide +kernel
theorem dX2_carry_19 : decode cX2_carry 19 = .ok (.iadd, 1) := by decide +kernel
theorem dX2_carry_20 : decode cX2_carry 20 = .ok (.putfield 26, 3) := by decide +kernel
theorem dX2_carry_23 : decode cX2_carry 23 = .ok (.aload_n 0, 1) := by decide +kernel
theorem dX2_carry_24 : decode cX2_carry 24 = .ok (.getfield 26, 3) := by decide +kernel
theorem dX2_carry_27 : decode cX2_carry 27 = .ok (.bipush 20, 2) := by decide +kernel
theorem dX2_carry_29 : decode cX2_carry 29 = .ok (.if_icmp .lt 28, 3) := by decide +kernel
theorem dX2_carry_32 : decode cX2_carry 32 = .ok (.aload_n 0, 1) := by decide +kernel
theorem dX2_carry_33 : decode cX2_carry 33 = .ok (.dup, 1) := by decide +kernel
theorem dX2_carry_34 : decode cX2_carry 34 = .ok (.getfield 26, 3) := by decide +kernel
theorem dX2_carry_37 : decode cX2_carry 37 = .ok (.bipush 20, 2) := by decide +kernel
theorem dX2_carry_39 : decode cX2_carry 39 = .ok (.isub, 1) := by decide +kernel
theorem dX2_carry_40 : decode cX2_carry 40 = .ok (.putfield 26, 3) := by decide +kernel
theorem dX2_carry_43 : decode cX2_carry 43 = .ok (.aload_n 0, 1) := by decide +kernel
theorem dX2_carry_44 : decode cX2_carry 44 = .ok (.aload_n 0, 1) := by decide +kernel
theorem dX2_carry_45 : decode cX2_carry 45 = .ok (.getfield 23, 3) := by decide +kernel
theorem dX2_carry_48 : decode cX2_carry 48 = .ok (.iconst 1, 1) := by decide +kernel
theorem dX2_carry_49 : decode cX2_carry 49 = .ok (.iadd, 1) := by decide +kernel
theorem dX2_carry_50 : decode cX2_carry 50 = .ok (.iconst 5, 1) := by decide +kernel
theorem dX2_carry_51 : decode cX2_carry 51 = .ok (.invokestatic 38, 3) := by decide +kernel
theorem dX2_carry_54 : decode cX2_carry 54 = .ok (.putfield 23, 3) := by decide +kernel
theorem dX2_carry_57 : decode cX2_carry 57 = .ok (.return_, 1) := by decide +kernel
theorem dX2_cracksAfter_0 : decode cX2_cracksAfter 0 = .ok (.aload_n 0, 1) := by decide +kernel
theorem dX2_cracksAfter_1 : decode cX2_cracksAfter 1 = .ok (.getfield 23, 3) := by decide +kernel
theorem dX2_cracksAfter_4 : decode cX2_cracksAfter 4 = .ok (.aload_n 0, 1) := by decide +kernel
theorem dX2_cracksAfter_5 : decode cX2_cracksAfter 5 = .ok (.getfield 26, 3) := by decide +kernel
theorem dX2_cracksAfter_8 : decode cX2_cracksAfter 8 = .ok (.iload_n 1, 1) := by decide +kernel
theorem dX2_cracksAfter_9 : decode cX2_cracksAfter 9 = .ok (.iadd, 1) := by decide +kernel
theorem dX2_cracksAfter_10 : decode cX2_cracksAfter 10 = .ok (.bipush 20, 2) := by decide +kernel
theorem dX2_cracksAfter_12 : decode cX2_cracksAfter 12 = .ok (.idiv, 1) := by decide +kernel
theorem dX2_cracksAfter_13 : decode cX2_cracksAfter 13 = .ok (.iadd, 1) := by decide +kernel
theorem dX2_cracksAfter_14 : decode cX2_cracksAfter 14 = .ok (.iconst 5, 1) := by decide +kernel
theorem dX2_cracksAfter_15 : decode cX2_cracksAfter 15 = .ok (.invokestatic 38, 3) := by decide +kernel
theorem dX2_cracksAfter_18 : decode cX2_cracksAfter 18 = .ok (.ireturn, 1) := by decide +kernel
theorem dX2_liveThroughDay_0 : decode cX2_liveThroughDay 0 = .ok (.aload_n 0, 1) := by decide +kernel
theorem dX2_liveThroughDay_1 : decode cX2_liveThroughDay 1 = .ok (.aload_n 0, 1) := by decide +kernel
theorem dX2_liveThroughDay_2 : decode cX2_liveThroughDay 2 = .ok (.getfield 10, 3) := by decide +kernel
theorem dX2_liveThroughDay_5 : decode cX2_liveThroughDay 5 = .ok (.iload_n 1, 1) := by decide +kernel
theorem dX2_liveThroughDay_6 : decode cX2_liveThroughDay 6 = .ok (.invokestatic 44, 3) := by decide +kernel
theorem dX2_liveThroughDay_9 : decode cX2_liveThroughDay 9 = .ok (.putfield 10, 3) := by decide +kernel
theorem dX2_liveThroughDay_12 : decode cX2_liveThroughDay 12 = .ok (.iload_n 1, 1) := by decide +kernel
theorem dX2_liveThroughDay_13 : decode cX2_liveThroughDay 13 = .ok (.bipush (-20), 2) := by decide +kernel
theorem dX2_liveThroughDay_15 : decode cX2_liveThroughDay 15 = .ok (.if_icmp .ge 17, 3) := by decide +kernel
theorem dX2_liveThroughDay_18 : decode cX2_liveThroughDay 18 = .ok (.aload_n 0, 1) := by decide +kernel
theorem dX2_liveThroughDay_19 : decode cX2_liveThroughDay 19 = .ok (.aload_n 0, 1) := by decide +kernel
theorem dX2_liveThroughDay_20 : decode cX2_liveThroughDay 20 = .ok (.getfield 23, 3) := by decide +kernel
theorem dX2_liveThroughDay_23 : decode cX2_liveThroughDay 23 = .ok (.iconst 1, 1) := by decide +kernel
theorem dX2_liveThroughDay_24 : decode cX2_liveThroughDay 24 = .ok (.isub, 1) := by decide +kernel
theorem dX2_liveThroughDay_25 : decode cX2_liveThroughDay 25 = .ok (.iconst 0, 1) := by decide +kernel
theorem dX2_liveThroughDay_26 : decode cX2_liveThroughDay 26 = .ok (.invokestatic 48, 3) := by decide +kernel
theorem dX2_liveThroughDay_29 : decode cX2_liveThroughDay 29 = .ok (.putfield 23, 3) := by decide +kernel
theorem dX2_liveThroughDay_32 : decode cX2_liveThroughDay 32 = .ok (.return_, 1) := by decide +kernel
theorem dX3_init_0 : decode cX3_init 0 = .ok (.aload_n 0, 1) := by decide +kernel
theorem dX3_init_1 : decode cX3_init 1 = .ok (.invokespecial 3, 3) := by decide +kernel
theorem dX3_init_4 : decode cX3_init 4 = .ok (.aload_n 0, 1) := by decide +kernel
theorem dX3_init_5 : decode cX3_init 5 = .ok (.bipush 60, 2) := by decide +kernel
theorem dX3_init_7 : decode cX3_init 7 = .ok (.newarray .char, 2) := by decide +kernel
theorem dX3_init_9 : decode cX3_init 9 = .ok (.putfield 9, 3) := by decide +kernel
theorem dX3_init_12 : decode cX3_init 12 = .ok (.aload_n 0, 1) := by decide +kernel
theorem dX3_init_13 : decode cX3_init 13 = .ok (.iconst 0, 1) := by decide +kernel
theorem dX3_init_14 : decode cX3_init 14 = .ok (.putfield 15, 3) := by decide +kernel
theorem dX3_init_17 : decode cX3_init 17 = .ok (.aload_n 0, 1) := by decide +kernel
theorem dX3_init_18 : decode cX3_init 18 = .ok (.iconst 0, 1) := by decide +kernel
theorem dX3_init_19 : decode cX3_init 19 = .ok (.putfield 19, 3) := by decide +kernel
theorem dX3_init_22 : decode cX3_init 22 = .ok (.aload_n 0, 1) := by decide +kernel
theorem dX3_init_23 : decode cX3_init 23 = .ok (.iconst 0, 1) := by decide +kernel
theorem dX3_init_24 : decode cX3_init 24 = .ok (.putfield 22, 3) := by decide +kernel
theorem dX3_init_27 : decode cX3_init 27 = .ok (.aload_n 0, 1) := by decide +kernel
theorem dX3_init_28 : decode cX3_init 28 = .ok (.bipush 20, 2) := by decide +kernel
theorem dX3_init_30 : decode cX3_init 30 = .ok (.newarray .int, 2) := by decide +kernel
theorem dX3_init_32 : decode cX3_init 32 = .ok (.putfield 25, 3) := by decide +kernel
theorem dX3_init_35 : decode cX3_init 35 = .ok (.aload_n 0, 1) := by decide +kernel
theorem dX3_init_36 : decode cX3_init 36 = .ok (.bipush 20, 2) := by decide +kernel
theorem dX3_init_38 : decode cX3_init 38 = .ok (.newarray .int, 2) := by decide +kernel
theorem dX3_init_40 : decode cX3_init 40 = .ok (.putfield 29, 3) := by decide +kernel
theorem dX3_init_43 : decode cX3_init 43 = .ok (.aload_n 0, 1) := by decide +kernel
theorem dX3_init_44 : decode cX3_init 44 = .ok (.bipush 20, 2) := by decide +kernel
theorem dX3_init_46 : decode cX3_init 46 = .ok (.newarray .int, 2) := by decide +kernel
theorem dX3_init_48 : decode cX3_init 48 = .ok (.putfield 32, 3) := by decide +kernel
theorem dX3_init_51 : decode cX3_init 51 = .ok (.aload_n 0, 1) := by decide +kernel
theorem dX3_init_52 : decode cX3_init 52 = .ok (.bipush 20, 2) := by decide +kernel
theorem dX3_init_54 : decode cX3_init 54 = .ok (.newarray .int, 2) := by decide +kernel
theorem dX3_init_56 : decode cX3_init 56 = .ok (.putfield 35, 3) := by decide +kernel
theorem dX3_init_59 : decode cX3_init 59 = .ok (.return_, 1) := by decide +kernel
theorem dX3_parse_0 : decode cX3_parse 0 = .ok (.aload_n 0, 1) := by decide +kernel
theorem dX3_parse_1 : decode cX3_parse 1 = .ok (.iconst 0, 1) := by decide +kernel
theorem dX3_parse_2 : decode cX3_parse 2 = .ok (.putfield 19, 3) := by decide +kernel
theorem dX3_parse_5 : decode cX3_parse 5 = .ok (.aload_n 0, 1) := by decide +kernel
theorem dX3_parse_6 : decode cX3_parse 6 = .ok (.iconst 0, 1) := by decide +kernel
theorem dX3_parse_7 : decode cX3_parse 7 = .ok (.putfield 22, 3) := by decide +kernel
theorem dX3_parse_10 : decode cX3_parse 10 = .ok (.aload_n 0, 1) := by decide +kernel
theorem dX3_parse_11 : decode cX3_parse 11 = .ok (.getfield 22, 3) := by decide +kernel
theorem dX3_parse_14 : decode cX3_parse 14 = .ok (.bipush 20, 2) := by decide +kernel
theorem dX3_parse_16 : decode cX3_parse 16 = .ok (.if_icmp .ge 52, 3) := by decide +kernel
theorem dX3_parse_19 : decode cX3_parse 19 = .ok (.aload_n 0, 1) := by decide +kernel
theorem dX3_parse_20 : decode cX3_parse 20 = .ok (.invokevirtual 38, 3) := by decide +kernel
theorem dX3_parse_23 : decode cX3_parse 23 = .ok (.ifCond .ne 8, 3) := by decide +kernel
theorem dX3_parse_26 : decode cX3_parse 26 = .ok (.aload_n 0, 1) := by decide +kernel
theorem dX3_parse_27 : decode cX3_parse 27 = .ok (.getfield 19, 3) := by decide +kernel
theorem dX3_parse_30 : decode cX3_parse 30 = .ok (.ireturn, 1) := by decide +kernel
theorem dX3_parse_31 : decode cX3_parse 31 = .ok (.aload_n 0, 1) := by decide +kernel
theorem dX3_parse_32 : decode cX3_parse 32 = .ok (.dup, 1) := by decide +kernel
theorem dX3_parse_33 : decode cX3_parse 33 = .ok (.getfield 22, 3) := by decide +kernel
theorem dX3_parse_36 : decode cX3_parse 36 = .ok (.iconst 1, 1) := by decide +kernel
theorem dX3_parse_37 : decode cX3_parse 37 = .ok (.iadd, 1) := by decide +kernel
theorem dX3_parse_38 : decode cX3_parse 38 = .ok (.putfield 22, 3) := by decide +kernel
theorem dX3_parse_41 : decode cX3_parse 41 = .ok (.aload_n 0, 1) := by decide +kernel
theorem dX3_parse_42 : decode cX3_parse 42 = .ok (.getfield 19, 3) := by decide +kernel
theorem dX3_parse_45 : decode cX3_parse 45 = .ok (.aload_n 0, 1) := by decide +kernel
theorem dX3_parse_46 : decode cX3_parse 46 = .ok (.getfield 15, 3) := by decide +kernel
theorem dX3_parse_49 : decode cX3_parse 49 = .ok (.if_icmp .lt 5, 3) := by decide +kernel
theorem dX3_parse_52 : decode cX3_parse 52 = .ok (.iconst (-1), 1) := by decide +kernel
theorem dX3_parse_53 : decode cX3_parse 53 = .ok (.ireturn, 1) := by decide +kernel
theorem dX3_parse_54 : decode cX3_parse 54 = .ok (.aload_n 0, 1) := by decide +kernel
theorem dX3_parse_55 : decode cX3_parse 55 = .ok (.bipush 59, 2) := by decide +kernel
theorem dX3_parse_57 : decode cX3_parse 57 = .ok (.invokevirtual 42, 3) := by decide +kernel
theorem dX3_parse_60 : decode cX3_parse 60 = .ok (.ifCond .ne (-50), 3) := by decide +kernel
theorem dX3_parse_63 : decode cX3_parse 63 = .ok (.aload_n 0, 1) := by decide +kernel
theorem dX3_parse_64 : decode cX3_parse 64 = .ok (.getfield 19, 3) := by decide +kernel
theorem dX3_parse_67 : decode cX3_parse 67 = .ok (.ireturn, 1) := by decide +kernel
theorem dX3_parse_68 : decode cX3_parse 68 = .ok (.aload_n 0, 1) := by decide +kernel
theorem dX3_parse_69 : decode cX3_parse 69 = .ok (.getfield 19, 3) := by decide +kernel
theorem dX3_parse_72 : decode cX3_parse 72 = .ok (.ireturn, 1) := by decide +kernel
theorem dX3_parseOrder_0 : decode cX3_parseOrder 0 = .ok (.aload_n 0, 1) := by decide +kernel
theorem dX3_parseOrder_1 : decode cX3_parseOrder 1 = .ok (.getfield 19, 3) := by decide +kernel
theorem dX3_parseOrder_4 : decode cX3_parseOrder 4 = .ok (.aload_n 0, 1) := by decide +kernel
theorem dX3_parseOrder_5 : decode cX3_parseOrder 5 = .ok (.getfield 15, 3) := by decide +kernel
theorem dX3_parseOrder_8 : decode cX3_parseOrder 8 = .ok (.if_icmp .ge 15, 3) := by decide +kernel
theorem dX3_parseOrder_11 : decode cX3_parseOrder 11 = .ok (.aload_n 0, 1) := by decide +kernel
theorem dX3_parseOrder_12 : decode cX3_parseOrder 12 = .ok (.getfield 9, 3) := by decide +kernel
theorem dX3_parseOrder_15 : decode cX3_parseOrder 15 = .ok (.aload_n 0, 1) := by decide +kernel
theorem dX3_parseOrder_16 : decode cX3_parseOrder 16 = .ok (.getfield 19, 3) := by decide +kernel
theorem dX3_parseOrder_19 : decode cX3_parseOrder 19 = .ok (.caload, 1) := by decide +kernel
theorem dX3_parseOrder_20 : decode cX3_parseOrder 20 = .ok (.goto 5, 3) := by decide +kernel
theorem dX3_parseOrder_23 : decode cX3_parseOrder 23 = .ok (.bipush 32, 2) := by decide +kernel
theorem dX3_parseOrder_25 : decode cX3_parseOrder 25 = .ok (.istore_n 1, 1) := by decide +kernel
theorem dX3_parseOrder_26 : decode cX3_parseOrder 26 = .ok (.aload_n 0, 1) := by decide +kernel
theorem dX3_parseOrder_27 : decode cX3_parseOrder 27 = .ok (.getfield 25, 3) := by decide +kernel
theorem dX3_parseOrder_30 : decode cX3_parseOrder 30 = .ok (.aload_n 0, 1) := by decide +kernel
theorem dX3_parseOrder_31 : decode cX3_parseOrder 31 = .ok (.getfield 22, 3) := by decide +kernel
theorem dX3_parseOrder_34 : decode cX3_parseOrder 34 = .ok (.iload_n 1, 1) := by decide +kernel
theorem dX3_parseOrder_35 : decode cX3_parseOrder 35 = .ok (.iastore, 1) := by decide +kernel
theorem dX3_parseOrder_36 : decode cX3_parseOrder 36 = .ok (.iload_n 1, 1) := by decide +kernel
theorem dX3_parseOrder_37 : decode cX3_parseOrder 37 = .ok (.tableswitch 195 100 116 #[83, 195, 195, 195, 195, 195, 180, 195, 195, 195, 195, 195, 83, 195, 124, 124, 165], 83) := by decide +kernel
theorem dX3_parseOrder_120 : decode cX3_parseOrder 120 = .ok (.aload_n 0, 1) := by decide +kernel
theorem dX3_parseOrder_121 : decode cX3_parseOrder 121 = .ok (.dup, 1) := by decide +kernel
theorem dX3_parseOrder_122 : decode cX3_parseOrder 122 = .ok (.getfield 19, 3) := by decide +kernel
theorem dX3_parseOrder_125 : decode cX3_parseOrder 125 = .ok (.iconst 1, 1) := by decide +kernel
theorem dX3_parseOrder_126 : decode cX3_parseOrder 126 = .ok (.iadd, 1) := by decide +kernel
theorem dX3_parseOrder_127 : decode cX3_parseOrder 127 = .ok (.putfield 19, 3) := by decide +kernel
theorem dX3_parseOrder_130 : decode cX3_parseOrder 130 = .ok (.aload_n 0, 1) := by decide +kernel
theorem dX3_parseOrder_131 : decode cX3_parseOrder 131 = .ok (.getfield 29, 3) := by decide +kernel
theorem dX3_parseOrder_134 : decode cX3_parseOrder 134 = .ok (.aload_n 0, 1) := by decide +kernel
theorem dX3_parseOrder_135 : decode cX3_parseOrder 135 = .ok (.getfield 22, 3) := by decide +kernel
theorem dX3_parseOrder_138 : decode cX3_parseOrder 138 = .ok (.aload_n 0, 1) := by decide +kernel
theorem dX3_parseOrder_139 : decode cX3_parseOrder 139 = .ok (.invokevirtual 46, 3) := by decide +kernel
theorem dX3_parseOrder_142 : decode cX3_parseOrder 142 = .ok (.iastore, 1) := by decide +kernel
theorem dX3_parseOrder_143 : decode cX3_parseOrder 143 = .ok (.aload_n 0, 1) := by decide +kernel
theorem dX3_parseOrder_144 : decode cX3_parseOrder 144 = .ok (.getfield 29, 3) := by decide +kernel
theorem dX3_parseOrder_147 : decode cX3_parseOrder 147 = .ok (.aload_n 0, 1) := by decide +kernel
theorem dX3_parseOrder_148 : decode cX3_parseOrder 148 = .ok (.getfield 22, 3) := by decide +kernel
theorem dX3_parseOrder_151 : decode cX3_parseOrder 151 = .ok (.iaload, 1) := by decide +kernel
theorem dX3_parseOrder_152 : decode cX3_parseOrder 152 = .ok (.ifCond .lt 7, 3) := by decide +kernel
theorem dX3_parseOrder_155 : decode cX3_parseOrder 155 = .ok (.iconst 1, 1) := by decide +kernel
theorem dX3_parseOrder_156 : decode cX3_parseOrder 156 = .ok (.goto 4, 3) := by decide +kernel
theorem dX3_parseOrder_159 : decode cX3_parseOrder 159 = .ok (.iconst 0, 1) := by decide +kernel
theorem dX3_parseOrder_160 : decode cX3_parseOrder 160 = .ok (.ireturn, 1) := by decide +kernel
theorem dX3_parseOrder_161 : decode cX3_parseOrder 161 = .ok (.aload_n 0, 1) := by decide +kernel
theorem dX3_parseOrder_162 : decode cX3_parseOrder 162 = .ok (.dup, 1) := by decide +kernel
theorem dX3_parseOrder_163 : decode cX3_parseOrder 163 = .ok (.getfield 19, 3) := by decide +kernel
theorem dX3_parseOrder_166 : decode cX3_parseOrder 166 = .ok (.iconst 1, 1) := by decide +kernel
theorem dX3_parseOrder_167 : decode cX3_parseOrder 167 = .ok (.iadd, 1) := by decide +kernel
theorem dX3_parseOrder_168 : decode cX3_parseOrder 168 = .ok (.putfield 19, 3) := by decide +kernel
theorem dX3_parseOrder_171 : decode cX3_parseOrder 171 = .ok (.aload_n 0, 1) := by decide +kernel
theorem dX3_parseOrder_172 : decode cX3_parseOrder 172 = .ok (.getfield 29, 3) := by decide +kernel
theorem dX3_parseOrder_175 : decode cX3_parseOrder 175 = .ok (.aload_n 0, 1) := by decide +kernel
theorem dX3_parseOrder_176 : decode cX3_parseOrder 176 = .ok (.getfield 22, 3) := by decide +kernel
theorem dX3_parseOrder_179 : decode cX3_parseOrder 179 = .ok (.aload_n 0, 1) := by decide +kernel
theorem dX3_parseOrder_180 : decode cX3_parseOrder 180 = .ok (.invokevirtual 50, 3) := by decide +kernel
theorem dX3_parseOrder_183 : decode cX3_parseOrder 183 = .ok (.iastore, 1) := by decide +kernel
theorem dX3_parseOrder_184 : decode cX3_parseOrder 184 = .ok (.aload_n 0, 1) := by decide +kernel
theorem dX3_parseOrder_185 : decode cX3_parseOrder 185 = .ok (.getfield 29, 3) := by decide +kernel
theorem dX3_parseOrder_188 : decode cX3_parseOrder 188 = .ok (.aload_n 0, 1) := by decide +kernel
theorem dX3_parseOrder_189 : decode cX3_parseOrder 189 = .ok (.getfield 22, 3) := by decide +kernel
theorem dX3_parseOrder_192 : decode cX3_parseOrder 192 = .ok (.iaload, 1) := by decide +kernel
theorem dX3_parseOrder_193 : decode cX3_parseOrder 193 = .ok (.ifCond .lt 7, 3) := by decide +kernel
theorem dX3_parseOrder_196 : decode cX3_parseOrder 196 = .ok (.iconst 1, 1) := by decide +kernel
theorem dX3_parseOrder_197 : decode cX3_parseOrder 197 = .ok (.goto 4, 3) := by decide +kernel
theorem dX3_parseOrder_200 : decode cX3_parseOrder 200 = .ok (.iconst 0, 1) := by decide +kernel
theorem dX3_parseOrder_201 : decode cX3_parseOrder 201 = .ok (.ireturn, 1) := by decide +kernel
theorem dX3_parseOrder_202 : decode cX3_parseOrder 202 = .ok (.aload_n 0, 1) := by decide +kernel
theorem dX3_parseOrder_203 : decode cX3_parseOrder 203 = .ok (.dup, 1) := by decide +kernel
theorem dX3_parseOrder_204 : decode cX3_parseOrder 204 = .ok (.getfield 19, 3) := by decide +kernel
theorem dX3_parseOrder_207 : decode cX3_parseOrder 207 = .ok (.iconst 1, 1) := by decide +kernel
theorem dX3_parseOrder_208 : decode cX3_parseOrder 208 = .ok (.iadd, 1) := by decide +kernel
theorem dX3_parseOrder_209 : decode cX3_parseOrder 209 = .ok (.putfield 19, 3) := by decide +kernel
theorem dX3_parseOrder_212 : decode cX3_parseOrder 212 = .ok (.aload_n 0, 1) := by decide +kernel
theorem dX3_parseOrder_213 : decode cX3_parseOrder 213 = .ok (.invokevirtual 53, 3) := by decide +kernel
theorem dX3_parseOrder_216 : decode cX3_parseOrder 216 = .ok (.ireturn, 1) := by decide +kernel
theorem dX3_parseOrder_217 : decode cX3_parseOrder 217 = .ok (.aload_n 0, 1) := by decide +kernel
theorem dX3_parseOrder_218 : decode cX3_parseOrder 218 = .ok (.dup, 1) := by decide +kernel
theorem dX3_parseOrder_219 : decode cX3_parseOrder 219 = .ok (.getfield 19, 3) := by decide +kernel
theorem dX3_parseOrder_222 : decode cX3_parseOrder 222 = .ok (.iconst 1, 1) := by decide +kernel
theorem dX3_parseOrder_223 : decode cX3_parseOrder 223 = .ok (.iadd, 1) := by decide +kernel
theorem dX3_parseOrder_224 : decode cX3_parseOrder 224 = .ok (.putfield 19, 3) := by decide +kernel
theorem dX3_parseOrder_227 : decode cX3_parseOrder 227 = .ok (.aload_n 0, 1) := by decide +kernel
theorem dX3_parseOrder_228 : decode cX3_parseOrder 228 = .ok (.invokevirtual 56, 3) := by decide +kernel
theorem dX3_parseOrder_231 : decode cX3_parseOrder 231 = .ok (.ireturn, 1) := by decide +kernel
theorem dX3_parseOrder_232 : decode cX3_parseOrder 232 = .ok (.iconst 0, 1) := by decide +kernel
theorem dX3_parseOrder_233 : decode cX3_parseOrder 233 = .ok (.ireturn, 1) := by decide +kernel
theorem dX3_parseTemperature_0 : decode cX3_parseTemperature 0 = .ok (.aload_n 0, 1) := by decide +kernel
theorem dX3_parseTemperature_1 : decode cX3_parseTemperature 1 = .ok (.bipush 45, 2) := by decide +kernel
theorem dX3_parseTemperature_3 : decode cX3_parseTemperature 3 = .ok (.invokevirtual 42, 3) := by decide +kernel
theorem dX3_parseTemperature_6 : decode cX3_parseTemperature 6 = .ok (.istore_n 1, 1) := by decide +kernel
theorem dX3_parseTemperature_7 : decode cX3_parseTemperature 7 = .ok (.aload_n 0, 1) := by decide +kernel
theorem dX3_parseTemperature_8 : decode cX3_parseTemperature 8 = .ok (.invokevirtual 46, 3) := by decide +kernel
theorem dX3_parseTemperature_11 : decode cX3_parseTemperature 11 = .ok (.istore_n 2, 1) := by decide +kernel
theorem dX3_parseTemperature_12 : decode cX3_parseTemperature 12 = .ok (.aload_n 0, 1) := by decide +kernel
theorem dX3_parseTemperature_13 : decode cX3_parseTemperature 13 = .ok (.getfield 29, 3) := by decide +kernel
theorem dX3_parseTemperature_16 : decode cX3_parseTemperature 16 = .ok (.aload_n 0, 1) := by decide +kernel
theorem dX3_parseTemperature_17 : decode cX3_parseTemperature 17 = .ok (.getfield 22, 3) := by decide +kernel
theorem dX3_parseTemperature_20 : decode cX3_parseTemperature 20 = .ok (.iload_n 1, 1) := by decide +kernel
theorem dX3_parseTemperature_21 : decode cX3_parseTemperature 21 = .ok (.ifCond .eq 8, 3) := by decide +kernel
theorem dX3_parseTemperature_24 : decode cX3_parseTemperature 24 = .ok (.iload_n 2, 1) := by decide +kernel
theorem dX3_parseTemperature_25 : decode cX3_parseTemperature 25 = .ok (.ineg, 1) := by decide +kernel
theorem dX3_parseTemperature_26 : decode cX3_parseTemperature 26 = .ok (.goto 4, 3) := by decide +kernel
theorem dX3_parseTemperature_29 : decode cX3_parseTemperature 29 = .ok (.iload_n 2, 1) := by decide +kernel
theorem dX3_parseTemperature_30 : decode cX3_parseTemperature 30 = .ok (.iastore, 1) := by decide +kernel
theorem dX3_parseTemperature_31 : decode cX3_parseTemperature 31 = .ok (.iload_n 2, 1) := by decide +kernel
theorem dX3_parseTemperature_32 : decode cX3_parseTemperature 32 = .ok (.ifCond .lt 7, 3) := by decide +kernel
theorem dX3_parseTemperature_35 : decode cX3_parseTemperature 35 = .ok (.iconst 1, 1) := by decide +kernel
theorem dX3_parseTemperature_36 : decode cX3_parseTemperature 36 = .ok (.goto 4, 3) := by decide +kernel
theorem dX3_parseTemperature_39 : decode cX3_parseTemperature 39 = .ok (.iconst 0, 1) := by decide +kernel
theorem dX3_parseTemperature_40 : decode cX3_parseTemperature 40 = .ok (.ireturn, 1) := by decide +kernel
theorem dX3_parseJoin_0 : decode cX3_parseJoin 0 = .ok (.aload_n 0, 1) := by decide +kernel
theorem dX3_parseJoin_1 : decode cX3_parseJoin 1 = .ok (.getfield 29, 3) := by decide +kernel
theorem dX3_parseJoin_4 : decode cX3_parseJoin 4 = .ok (.aload_n 0, 1) := by decide +kernel
theorem dX3_parseJoin_5 : decode cX3_parseJoin 5 = .ok (.getfield 22, 3) := by decide +kernel
theorem dX3_parseJoin_8 : decode cX3_parseJoin 8 = .ok (.aload_n 0, 1) := by decide +kernel
theorem dX3_parseJoin_9 : decode cX3_parseJoin 9 = .ok (.invokevirtual 50, 3) := by decide +kernel
theorem dX3_parseJoin_12 : decode cX3_parseJoin 12 = .ok (.iastore, 1) := by decide +kernel
theorem dX3_parseJoin_13 : decode cX3_parseJoin 13 = .ok (.aload_n 0, 1) := by decide +kernel
theorem dX3_parseJoin_14 : decode cX3_parseJoin 14 = .ok (.getfield 29, 3) := by decide +kernel
theorem dX3_parseJoin_17 : decode cX3_parseJoin 17 = .ok (.aload_n 0, 1) := by decide +kernel
theorem dX3_parseJoin_18 : decode cX3_parseJoin 18 = .ok (.getfield 22, 3) := by decide +kernel
theorem dX3_parseJoin_21 : decode cX3_parseJoin 21 = .ok (.iaload, 1) := by decide +kernel
theorem dX3_parseJoin_22 : decode cX3_parseJoin 22 = .ok (.ifCond .lt 12, 3) := by decide +kernel
theorem dX3_parseJoin_25 : decode cX3_parseJoin 25 = .ok (.aload_n 0, 1) := by decide +kernel
theorem dX3_parseJoin_26 : decode cX3_parseJoin 26 = .ok (.bipush 58, 2) := by decide +kernel
theorem dX3_parseJoin_28 : decode cX3_parseJoin 28 = .ok (.invokevirtual 42, 3) := by decide +kernel
theorem dX3_parseJoin_31 : decode cX3_parseJoin 31 = .ok (.ifCond .ne 5, 3) := by decide +kernel
theorem dX3_parseJoin_34 : decode cX3_parseJoin 34 = .ok (.iconst 0, 1) := by decide +kernel
theorem dX3_parseJoin_35 : decode cX3_parseJoin 35 = .ok (.ireturn, 1) := by decide +kernel
theorem dX3_parseJoin_36 : decode cX3_parseJoin 36 = .ok (.aload_n 0, 1) := by decide +kernel
theorem dX3_parseJoin_37 : decode cX3_parseJoin 37 = .ok (.getfield 32, 3) := by decide +kernel
theorem dX3_parseJoin_40 : decode cX3_parseJoin 40 = .ok (.aload_n 0, 1) := by decide +kernel
theorem dX3_parseJoin_41 : decode cX3_parseJoin 41 = .ok (.getfield 22, 3) := by decide +kernel
theorem dX3_parseJoin_44 : decode cX3_parseJoin 44 = .ok (.aload_n 0, 1) := by decide +kernel
theorem dX3_parseJoin_45 : decode cX3_parseJoin 45 = .ok (.invokevirtual 50, 3) := by decide +kernel
theorem dX3_parseJoin_48 : decode cX3_parseJoin 48 = .ok (.iastore, 1) := by decide +kernel
theorem dX3_parseJoin_49 : decode cX3_parseJoin 49 = .ok (.aload_n 0, 1) := by decide +kernel
theorem dX3_parseJoin_50 : decode cX3_parseJoin 50 = .ok (.getfield 32, 3) := by decide +kernel
theorem dX3_parseJoin_53 : decode cX3_parseJoin 53 = .ok (.aload_n 0, 1) := by decide +kernel
theorem dX3_parseJoin_54 : decode cX3_parseJoin 54 = .ok (.getfield 22, 3) := by decide +kernel
theorem dX3_parseJoin_57 : decode cX3_parseJoin 57 = .ok (.iaload, 1) := by decide +kernel
theorem dX3_parseJoin_58 : decode cX3_parseJoin 58 = .ok (.ifCond .lt 12, 3) := by decide +kernel
theorem dX3_parseJoin_61 : decode cX3_parseJoin 61 = .ok (.aload_n 0, 1) := by decide +kernel
theorem dX3_parseJoin_62 : decode cX3_parseJoin 62 = .ok (.bipush 46, 2) := by decide +kernel
theorem dX3_parseJoin_64 : decode cX3_parseJoin 64 = .ok (.invokevirtual 42, 3) := by decide +kernel
theorem dX3_parseJoin_67 : decode cX3_parseJoin 67 = .ok (.ifCond .ne 5, 3) := by decide +kernel
theorem dX3_parseJoin_70 : decode cX3_parseJoin 70 = .ok (.iconst 0, 1) := by decide +kernel
theorem dX3_parseJoin_71 : decode cX3_parseJoin 71 = .ok (.ireturn, 1) := by decide +kernel
theorem dX3_parseJoin_72 : decode cX3_parseJoin 72 = .ok (.aload_n 0, 1) := by decide +kernel
theorem dX3_parseJoin_73 : decode cX3_parseJoin 73 = .ok (.getfield 35, 3) := by decide +kernel
theorem dX3_parseJoin_76 : decode cX3_parseJoin 76 = .ok (.aload_n 0, 1) := by decide +kernel
theorem dX3_parseJoin_77 : decode cX3_parseJoin 77 = .ok (.getfield 22, 3) := by decide +kernel
theorem dX3_parseJoin_80 : decode cX3_parseJoin 80 = .ok (.aload_n 0, 1) := by decide +kernel
theorem dX3_parseJoin_81 : decode cX3_parseJoin 81 = .ok (.invokevirtual 50, 3) := by decide +kernel
theorem dX3_parseJoin_84 : decode cX3_parseJoin 84 = .ok (.iastore, 1) := by decide +kernel
theorem dX3_parseJoin_85 : decode cX3_parseJoin 85 = .ok (.aload_n 0, 1) := by decide +kernel
theorem dX3_parseJoin_86 : decode cX3_parseJoin 86 = .ok (.getfield 35, 3) := by decide +kernel
theorem dX3_parseJoin_89 : decode cX3_parseJoin 89 = .ok (.aload_n 0, 1) := by decide +kernel
theorem dX3_parseJoin_90 : decode cX3_parseJoin 90 = .ok (.getfield 22, 3) := by decide +kernel
theorem dX3_parseJoin_93 : decode cX3_parseJoin 93 = .ok (.iaload, 1) := by decide +kernel
theorem dX3_parseJoin_94 : decode cX3_parseJoin 94 = .ok (.ifCond .lt 7, 3) := by decide +kernel
theorem dX3_parseJoin_97 : decode cX3_parseJoin 97 = .ok (.iconst 1, 1) := by decide +kernel
theorem dX3_parseJoin_98 : decode cX3_parseJoin 98 = .ok (.goto 4, 3) := by decide +kernel
theorem dX3_parseJoin_101 : decode cX3_parseJoin 101 = .ok (.iconst 0, 1) := by decide +kernel
theorem dX3_parseJoin_102 : decode cX3_parseJoin 102 = .ok (.ireturn, 1) := by decide +kernel
theorem dX3_skip_0 : decode cX3_skip 0 = .ok (.aload_n 0, 1) := by decide +kernel
theorem dX3_skip_1 : decode cX3_skip 1 = .ok (.getfield 19, 3) := by decide +kernel
theorem dX3_skip_4 : decode cX3_skip 4 = .ok (.aload_n 0, 1) := by decide +kernel
theorem dX3_skip_5 : decode cX3_skip 5 = .ok (.getfield 15, 3) := by decide +kernel
theorem dX3_skip_8 : decode cX3_skip 8 = .ok (.if_icmp .ge 16, 3) := by decide +kernel
theorem dX3_skip_11 : decode cX3_skip 11 = .ok (.aload_n 0, 1) := by decide +kernel
theorem dX3_skip_12 : decode cX3_skip 12 = .ok (.getfield 9, 3) := by decide +kernel
theorem dX3_skip_15 : decode cX3_skip 15 = .ok (.aload_n 0, 1) := by decide +kernel
theorem dX3_skip_16 : decode cX3_skip 16 = .ok (.getfield 19, 3) := by decide +kernel
theorem dX3_skip_19 : decode cX3_skip 19 = .ok (.caload, 1) := by decide +kernel
theorem dX3_skip_20 : decode cX3_skip 20 = .ok (.iload_n 1, 1) := by decide +kernel
theorem dX3_skip_21 : decode cX3_skip 21 = .ok (.if_icmp .eq 5, 3) := by decide +kernel
theorem dX3_skip_24 : decode cX3_skip 24 = .ok (.iconst 0, 1) := by decide +kernel
theorem dX3_skip_25 : decode cX3_skip 25 = .ok (.ireturn, 1) := by decide +kernel
theorem dX3_skip_26 : decode cX3_skip 26 = .ok (.aload_n 0, 1) := by decide +kernel
theorem dX3_skip_27 : decode cX3_skip 27 = .ok (.dup, 1) := by decide +kernel
theorem dX3_skip_28 : decode cX3_skip 28 = .ok (.getfield 19, 3) := by decide +kernel
theorem dX3_skip_31 : decode cX3_skip 31 = .ok (.iconst 1, 1) := by decide +kernel
theorem dX3_skip_32 : decode cX3_skip 32 = .ok (.iadd, 1) := by decide +kernel
theorem dX3_skip_33 : decode cX3_skip 33 = .ok (.putfield 19, 3) := by decide +kernel
theorem dX3_skip_36 : decode cX3_skip 36 = .ok (.iconst 1, 1) := by decide +kernel
theorem dX3_skip_37 : decode cX3_skip 37 = .ok (.ireturn, 1) := by decide +kernel
theorem dX3_parseNumber_0 : decode cX3_parseNumber 0 = .ok (.aload_n 0, 1) := by decide +kernel
theorem dX3_parseNumber_1 : decode cX3_parseNumber 1 = .ok (.invokevirtual 50, 3) := by decide +kernel
theorem dX3_parseNumber_4 : decode cX3_parseNumber 4 = .ok (.istore_n 1, 1) := by decide +kernel
theorem dX3_parseNumber_5 : decode cX3_parseNumber 5 = .ok (.iload_n 1, 1) := by decide +kernel
theorem dX3_parseNumber_6 : decode cX3_parseNumber 6 = .ok (.ifCond .ge 5, 3) := by decide +kernel
theorem dX3_parseNumber_9 : decode cX3_parseNumber 9 = .ok (.iconst (-1), 1) := by decide +kernel
theorem dX3_parseNumber_10 : decode cX3_parseNumber 10 = .ok (.ireturn, 1) := by decide +kernel
theorem dX3_parseNumber_11 : decode cX3_parseNumber 11 = .ok (.aload_n 0, 1) := by decide +kernel
theorem dX3_parseNumber_12 : decode cX3_parseNumber 12 = .ok (.invokevirtual 50, 3) := by decide +kernel
theorem dX3_parseNumber_15 : decode cX3_parseNumber 15 = .ok (.istore_n 2, 1) := by decide +kernel
theorem dX3_parseNumber_16 : decode cX3_parseNumber 16 = .ok (.iload_n 2, 1) := by decide +kernel
theorem dX3_parseNumber_17 : decode cX3_parseNumber 17 = .ok (.ifCond .ge 7, 3) := by decide +kernel
theorem dX3_parseNumber_20 : decode cX3_parseNumber 20 = .ok (.iload_n 1, 1) := by decide +kernel
theorem dX3_parseNumber_21 : decode cX3_parseNumber 21 = .ok (.goto 9, 3) := by decide +kernel
theorem dX3_parseNumber_24 : decode cX3_parseNumber 24 = .ok (.bipush 10, 2) := by decide +kernel
theorem dX3_parseNumber_26 : decode cX3_parseNumber 26 = .ok (.iload_n 1, 1) := by decide +kernel
theorem dX3_parseNumber_27 : decode cX3_parseNumber 27 = .ok (.imul, 1) := by decide +kernel
theorem dX3_parseNumber_28 : decode cX3_parseNumber 28 = .ok (.iload_n 2, 1) := by decide +kernel
theorem dX3_parseNumber_29 : decode cX3_parseNumber 29 = .ok (.iadd, 1) := by decide +kernel
theorem dX3_parseNumber_30 : decode cX3_parseNumber 30 = .ok (.ireturn, 1) := by decide +kernel
theorem dX3_parseDigit_0 : decode cX3_parseDigit 0 = .ok (.aload_n 0, 1) := by decide +kernel
theorem dX3_parseDigit_1 : decode cX3_parseDigit 1 = .ok (.getfield 19, 3) := by decide +kernel
theorem dX3_parseDigit_4 : decode cX3_parseDigit 4 = .ok (.aload_n 0, 1) := by decide +kernel
theorem dX3_parseDigit_5 : decode cX3_parseDigit 5 = .ok (.getfield 15, 3) := by decide +kernel
theorem dX3_parseDigit_8 : decode cX3_parseDigit 8 = .ok (.if_icmp .ge 31, 3) := by decide +kernel
theorem dX3_parseDigit_11 : decode cX3_parseDigit 11 = .ok (.aload_n 0, 1) := by decide +kernel
theorem dX3_parseDigit_12 : decode cX3_parseDigit 12 = .ok (.getfield 9, 3) := by decide +kernel
theorem dX3_parseDigit_15 : decode cX3_parseDigit 15 = .ok (.aload_n 0, 1) := by decide +kernel
theorem dX3_parseDigit_16 : decode cX3_parseDigit 16 = .ok (.getfield 19, 3) := by decide +kernel
theorem dX3_parseDigit_19 : decode cX3_parseDigit 19 = .ok (.caload, 1) := by decide +kernel
theorem dX3_parseDigit_20 : decode cX3_parseDigit 20 = .ok (.bipush 48, 2) := by decide +kernel
theorem dX3_parseDigit_22 : decode cX3_parseDigit 22 = .ok (.if_icmp .lt 17, 3) := by decide +kernel
theorem dX3_parseDigit_25 : decode cX3_parseDigit 25 = .ok (.aload_n 0, 1) := by decide +kernel
theorem dX3_parseDigit_26 : decode cX3_parseDigit 26 = .ok (.getfield 9, 3) := by decide +kernel
theorem dX3_parseDigit_29 : decode cX3_parseDigit 29 = .ok (.aload_n 0, 1) := by decide +kernel
theorem dX3_parseDigit_30 : decode cX3_parseDigit 30 = .ok (.getfield 19, 3) := by decide +kernel
theorem dX3_parseDigit_33 : decode cX3_parseDigit 33 = .ok (.caload, 1) := by decide +kernel
theorem dX3_parseDigit_34 : decode cX3_parseDigit 34 = .ok (.bipush 57, 2) := by decide +kernel
theorem dX3_parseDigit_36 : decode cX3_parseDigit 36 = .ok (.if_icmp .le 5, 3) := by decide +kernel
theorem dX3_parseDigit_39 : decode cX3_parseDigit 39 = .ok (.iconst (-1), 1) := by decide +kernel
theorem dX3_parseDigit_40 : decode cX3_parseDigit 40 = .ok (.ireturn, 1) := by decide +kernel
theorem dX3_parseDigit_41 : decode cX3_parseDigit 41 = .ok (.aload_n 0, 1) := by decide +kernel
theorem dX3_parseDigit_42 : decode cX3_parseDigit 42 = .ok (.getfield 9, 3) := by decide +kernel
theorem dX3_parseDigit_45 : decode cX3_parseDigit 45 = .ok (.aload_n 0, 1) := by decide +kernel
theorem dX3_parseDigit_46 : decode cX3_parseDigit 46 = .ok (.getfield 19, 3) := by decide +kernel
theorem dX3_parseDigit_49 : decode cX3_parseDigit 49 = .ok (.caload, 1) := by decide +kernel
theorem dX3_parseDigit_50 : decode cX3_parseDigit 50 = .ok (.bipush 48, 2) := by decide +kernel
theorem dX3_parseDigit_52 : decode cX3_parseDigit 52 = .ok (.isub, 1) := by decide +kernel
theorem dX3_parseDigit_53 : decode cX3_parseDigit 53 = .ok (.istore_n 1, 1) := by decide +kernel
theorem dX3_parseDigit_54 : decode cX3_parseDigit 54 = .ok (.aload_n 0, 1) := by decide +kernel
theorem dX3_parseDigit_55 : decode cX3_parseDigit 55 = .ok (.dup, 1) := by decide +kernel
theorem dX3_parseDigit_56 : decode cX3_parseDigit 56 = .ok (.getfield 19, 3) := by decide +kernel
theorem dX3_parseDigit_59 : decode cX3_parseDigit 59 = .ok (.iconst 1, 1) := by decide +kernel
theorem dX3_parseDigit_60 : decode cX3_parseDigit 60 = .ok (.iadd, 1) := by decide +kernel
theorem dX3_parseDigit_61 : decode cX3_parseDigit 61 = .ok (.putfield 19, 3) := by decide +kernel
theorem dX3_parseDigit_64 : decode cX3_parseDigit 64 = .ok (.iload_n 1, 1) := by decide +kernel
theorem dX3_parseDigit_65 : decode cX3_parseDigit 65 = .ok (.ireturn, 1) := by decide +kernel
theorem dX3_carryOut_0 : decode cX3_carryOut 0 = .ok (.aload_n 0, 1) := by decide +kernel
theorem dX3_carryOut_1 : decode cX3_carryOut 1 = .ok (.getfield 29, 3) := by decide +kernel
theorem dX3_carryOut_4 : decode cX3_carryOut 4 = .ok (.iload_n 1, 1) := by decide +kernel
theorem dX3_carryOut_5 : decode cX3_carryOut 5 = .ok (.iaload, 1) := by decide +kernel
theorem dX3_carryOut_6 : decode cX3_carryOut 6 = .ok (.istore_n 3, 1) := by decide +kernel
theorem dX3_carryOut_7 : decode cX3_carryOut 7 = .ok (.aload_n 0, 1) := by decide +kernel
theorem dX3_carryOut_8 : decode cX3_carryOut 8 = .ok (.getfield 25, 3) := by decide +kernel
theorem dX3_carryOut_11 : decode cX3_carryOut 11 = .ok (.iload_n 1, 1) := by decide +kernel
theorem dX3_carryOut_12 : decode cX3_carryOut 12 = .ok (.iaload, 1) := by decide +kernel
theorem dX3_carryOut_13 : decode cX3_carryOut 13 = .ok (.tableswitch 130 100 116 #[83, 130, 130, 130, 130, 130, 117, 130, 130, 130, 130, 130, 124, 130, 100, 89, 111], 83) := by decide +kernel
theorem dX3_carryOut_96 : decode cX3_carryOut 96 = .ok (.iload_n 3, 1) := by decide +kernel
theorem dX3_carryOut_97 : decode cX3_carryOut 97 = .ok (.aload_n 2, 1) := by decide +kernel
theorem dX3_carryOut_98 : decode cX3_carryOut 98 = .ok (.invokestatic 59, 3) := by decide +kernel
theorem dX3_carryOut_101 : decode cX3_carryOut 101 = .ok (.ireturn, 1) := by decide +kernel
theorem dX3_carryOut_102 : decode cX3_carryOut 102 = .ok (.iload_n 3, 1) := by decide +kernel
theorem dX3_carryOut_103 : decode cX3_carryOut 103 = .ok (.aload_n 2, 1) := by decide +kernel
theorem dX3_carryOut_104 : decode cX3_carryOut 104 = .ok (.iload_n 3, 1) := by decide +kernel
theorem dX3_carryOut_105 : decode cX3_carryOut 105 = .ok (.invokevirtual 63, 3) := by decide +kernel
theorem dX3_carryOut_108 : decode cX3_carryOut 108 = .ok (.aload_n 2, 1) := by decide +kernel
theorem dX3_carryOut_109 : decode cX3_carryOut 109 = .ok (.invokestatic 69, 3) := by decide +kernel
theorem dX3_carryOut_112 : decode cX3_carryOut 112 = .ok (.ireturn, 1) := by decide +kernel
theorem dX3_carryOut_113 : decode cX3_carryOut 113 = .ok (.iload_n 3, 1) := by decide +kernel
theorem dX3_carryOut_114 : decode cX3_carryOut 114 = .ok (.aload_n 2, 1) := by decide +kernel
theorem dX3_carryOut_115 : decode cX3_carryOut 115 = .ok (.iload_n 3, 1) := by decide +kernel
theorem dX3_carryOut_116 : decode cX3_carryOut 116 = .ok (.invokevirtual 73, 3) := by decide +kernel
theorem dX3_carryOut_119 : decode cX3_carryOut 119 = .ok (.aload_n 2, 1) := by decide +kernel
theorem dX3_carryOut_120 : decode cX3_carryOut 120 = .ok (.invokestatic 69, 3) := by decide +kernel
theorem dX3_carryOut_123 : decode cX3_carryOut 123 = .ok (.ireturn, 1) := by decide +kernel
theorem dX3_carryOut_124 : decode cX3_carryOut 124 = .ok (.iload_n 3, 1) := by decide +kernel
theorem dX3_carryOut_125 : decode cX3_carryOut 125 = .ok (.aload_n 2, 1) := by decide +kernel
theorem dX3_carryOut_126 : decode cX3_carryOut 126 = .ok (.invokestatic 76, 3) := by decide +kernel
theorem dX3_carryOut_129 : decode cX3_carryOut 129 = .ok (.ireturn, 1) := by decide +kernel
theorem dX3_carryOut_130 : decode cX3_carryOut 130 = .ok (.aload_n 0, 1) := by decide +kernel
theorem dX3_carryOut_131 : decode cX3_carryOut 131 = .ok (.iload_n 1, 1) := by decide +kernel
theorem dX3_carryOut_132 : decode cX3_carryOut 132 = .ok (.aload_n 2, 1) := by decide +kernel
theorem dX3_carryOut_133 : decode cX3_carryOut 133 = .ok (.invokevirtual 79, 3) := by decide +kernel
theorem dX3_carryOut_136 : decode cX3_carryOut 136 = .ok (.ireturn, 1) := by decide +kernel
theorem dX3_carryOut_137 : decode cX3_carryOut 137 = .ok (.iload_n 3, 1) := by decide +kernel
theorem dX3_carryOut_138 : decode cX3_carryOut 138 = .ok (.aload_n 2, 1) := by decide +kernel
theorem dX3_carryOut_139 : decode cX3_carryOut 139 = .ok (.invokestatic 82, 3) := by decide +kernel
theorem dX3_carryOut_142 : decode cX3_carryOut 142 = .ok (.ireturn, 1) := by decide +kernel
theorem dX3_carryOut_143 : decode cX3_carryOut 143 = .ok (.iconst (-1), 1) := by decide +kernel
theorem dX3_carryOut_144 : decode cX3_carryOut 144 = .ok (.ireturn, 1) := by decide +kernel
theorem dX3_carryOutDrill_0 : decode cX3_carryOutDrill 0 = .ok (.iload_n 0, 1) := by decide +kernel
theorem dX3_carryOutDrill_1 : decode cX3_carryOutDrill 1 = .ok (.invokestatic 85, 3) := by decide +kernel
theorem dX3_carryOutDrill_4 : decode cX3_carryOutDrill 4 = .ok (.ifCond .ne 5, 3) := by decide +kernel
theorem dX3_carryOutDrill_7 : decode cX3_carryOutDrill 7 = .ok (.iconst (-1), 1) := by decide +kernel
theorem dX3_carryOutDrill_8 : decode cX3_carryOutDrill 8 = .ok (.ireturn, 1) := by decide +kernel
theorem dX3_carryOutDrill_9 : decode cX3_carryOutDrill 9 = .ok (.aload_n 1, 1) := by decide +kernel
theorem dX3_carryOutDrill_10 : decode cX3_carryOutDrill 10 = .ok (.aload_n 1, 1) := by decide +kernel
theorem dX3_carryOutDrill_11 : decode cX3_carryOutDrill 11 = .ok (.getfield 89, 3) := by decide +kernel
theorem dX3_carryOutDrill_14 : decode cX3_carryOutDrill 14 = .ok (.iload_n 0, 1) := by decide +kernel
theorem dX3_carryOutDrill_15 : decode cX3_carryOutDrill 15 = .ok (.aaload, 1) := by decide +kernel
theorem dX3_carryOutDrill_16 : decode cX3_carryOutDrill 16 = .ok (.invokevirtual 93, 3) := by decide +kernel
theorem dX3_carryOutDrill_19 : decode cX3_carryOutDrill 19 = .ok (.iconst 0, 1) := by decide +kernel
theorem dX3_carryOutDrill_20 : decode cX3_carryOutDrill 20 = .ok (.ireturn, 1) := by decide +kernel
theorem dX3_carryOutMove_0 : decode cX3_carryOutMove 0 = .ok (.iload_n 1, 1) := by decide +kernel
theorem dX3_carryOutMove_1 : decode cX3_carryOutMove 1 = .ok (.ifCond .ne 13, 3) := by decide +kernel
theorem dX3_carryOutMove_4 : decode cX3_carryOutMove 4 = .ok (.aload_n 2, 1) := by decide +kernel
theorem dX3_carryOutMove_5 : decode cX3_carryOutMove 5 = .ok (.aload_n 2, 1) := by decide +kernel
theorem dX3_carryOutMove_6 : decode cX3_carryOutMove 6 = .ok (.getfield 97, 3) := by decide +kernel
theorem dX3_carryOutMove_9 : decode cX3_carryOutMove 9 = .ok (.iload_n 0, 1) := by decide +kernel
theorem dX3_carryOutMove_10 : decode cX3_carryOutMove 10 = .ok (.aaload, 1) := by decide +kernel
theorem dX3_carryOutMove_11 : decode cX3_carryOutMove 11 = .ok (.invokevirtual 101, 3) := by decide +kernel
theorem dX3_carryOutMove_14 : decode cX3_carryOutMove 14 = .ok (.iload_n 1, 1) := by decide +kernel
theorem dX3_carryOutMove_15 : decode cX3_carryOutMove 15 = .ok (.ireturn, 1) := by decide +kernel
theorem dX3_carryOutTemperature_0 : decode cX3_carryOutTemperature 0 = .ok (.iconst 0, 1) := by decide +kernel
theorem dX3_carryOutTemperature_1 : decode cX3_carryOutTemperature 1 = .ok (.iload_n 0, 1) := by decide +kernel
theorem dX3_carryOutTemperature_2 : decode cX3_carryOutTemperature 2 = .ok (.invokestatic 105, 3) := by decide +kernel
theorem dX3_carryOutTemperature_5 : decode cX3_carryOutTemperature 5 = .ok (.ifCond .ne 6, 3) := by decide +kernel
theorem dX3_carryOutTemperature_8 : decode cX3_carryOutTemperature 8 = .ok (.bipush (-3), 2) := by decide +kernel
theorem dX3_carryOutTemperature_10 : decode cX3_carryOutTemperature 10 = .ok (.ireturn, 1) := by decide +kernel
theorem dX3_carryOutTemperature_11 : decode cX3_carryOutTemperature 11 = .ok (.aload_n 1, 1) := by decide +kernel
theorem dX3_carryOutTemperature_12 : decode cX3_carryOutTemperature 12 = .ok (.getfield 109, 3) := by decide +kernel
theorem dX3_carryOutTemperature_15 : decode cX3_carryOutTemperature 15 = .ok (.iconst 0, 1) := by decide +kernel
theorem dX3_carryOutTemperature_16 : decode cX3_carryOutTemperature 16 = .ok (.iload_n 0, 1) := by decide +kernel
theorem dX3_carryOutTemperature_17 : decode cX3_carryOutTemperature 17 = .ok (.iastore, 1) := by decide +kernel
theorem dX3_carryOutTemperature_18 : decode cX3_carryOutTemperature 18 = .ok (.iconst 0, 1) := by decide +kernel
theorem dX3_carryOutTemperature_19 : decode cX3_carryOutTemperature 19 = .ok (.ireturn, 1) := by decide +kernel
theorem dX3_carryOutJoin_0 : decode cX3_carryOutJoin 0 = .ok (.aload_n 2, 1) := by decide +kernel
theorem dX3_carryOutJoin_1 : decode cX3_carryOutJoin 1 = .ok (.aload_n 0, 1) := by decide +kernel
theorem dX3_carryOutJoin_2 : decode cX3_carryOutJoin 2 = .ok (.getfield 29, 3) := by decide +kernel
theorem dX3_carryOutJoin_5 : decode cX3_carryOutJoin 5 = .ok (.iload_n 1, 1) := by decide +kernel
theorem dX3_carryOutJoin_6 : decode cX3_carryOutJoin 6 = .ok (.iaload, 1) := by decide +kernel
theorem dX3_carryOutJoin_7 : decode cX3_carryOutJoin 7 = .ok (.aload_n 0, 1) := by decide +kernel
theorem dX3_carryOutJoin_8 : decode cX3_carryOutJoin 8 = .ok (.getfield 32, 3) := by decide +kernel
theorem dX3_carryOutJoin_11 : decode cX3_carryOutJoin 11 = .ok (.iload_n 1, 1) := by decide +kernel
theorem dX3_carryOutJoin_12 : decode cX3_carryOutJoin 12 = .ok (.iaload, 1) := by decide +kernel
theorem dX3_carryOutJoin_13 : decode cX3_carryOutJoin 13 = .ok (.aload_n 0, 1) := by decide +kernel
theorem dX3_carryOutJoin_14 : decode cX3_carryOutJoin 14 = .ok (.getfield 35, 3) := by decide +kernel
theorem dX3_carryOutJoin_17 : decode cX3_carryOutJoin 17 = .ok (.iload_n 1, 1) := by decide +kernel
theorem dX3_carryOutJoin_18 : decode cX3_carryOutJoin 18 = .ok (.iaload, 1) := by decide +kernel
theorem dX3_carryOutJoin_19 : decode cX3_carryOutJoin 19 = .ok (.invokevirtual 112, 3) := by decide +kernel
theorem dX3_carryOutJoin_22 : decode cX3_carryOutJoin 22 = .ok (.istore_n 3, 1) := by decide +kernel
theorem dX3_carryOutJoin_23 : decode cX3_carryOutJoin 23 = .ok (.iload_n 3, 1) := by decide +kernel
theorem dX3_carryOutJoin_24 : decode cX3_carryOutJoin 24 = .ok (.ifCond .ne 33, 3) := by decide +kernel
theorem dX3_carryOutJoin_27 : decode cX3_carryOutJoin 27 = .ok (.aload_n 2, 1) := by decide +kernel
theorem dX3_carryOutJoin_28 : decode cX3_carryOutJoin 28 = .ok (.aload_n 2, 1) := by decide +kernel
theorem dX3_carryOutJoin_29 : decode cX3_carryOutJoin 29 = .ok (.getfield 97, 3) := by decide +kernel
theorem dX3_carryOutJoin_32 : decode cX3_carryOutJoin 32 = .ok (.aload_n 0, 1) := by decide +kernel
theorem dX3_carryOutJoin_33 : decode cX3_carryOutJoin 33 = .ok (.getfield 29, 3) := by decide +kernel
theorem dX3_carryOutJoin_36 : decode cX3_carryOutJoin 36 = .ok (.iload_n 1, 1) := by decide +kernel
theorem dX3_carryOutJoin_37 : decode cX3_carryOutJoin 37 = .ok (.iaload, 1) := by decide +kernel
theorem dX3_carryOutJoin_38 : decode cX3_carryOutJoin 38 = .ok (.aaload, 1) := by decide +kernel
theorem dX3_carryOutJoin_39 : decode cX3_carryOutJoin 39 = .ok (.aload_n 0, 1) := by decide +kernel
theorem dX3_carryOutJoin_40 : decode cX3_carryOutJoin 40 = .ok (.getfield 32, 3) := by decide +kernel
theorem dX3_carryOutJoin_43 : decode cX3_carryOutJoin 43 = .ok (.iload_n 1, 1) := by decide +kernel
theorem dX3_carryOutJoin_44 : decode cX3_carryOutJoin 44 = .ok (.iaload, 1) := by decide +kernel
theorem dX3_carryOutJoin_45 : decode cX3_carryOutJoin 45 = .ok (.iconst 5, 1) := by decide +kernel
theorem dX3_carryOutJoin_46 : decode cX3_carryOutJoin 46 = .ok (.imul, 1) := by decide +kernel
theorem dX3_carryOutJoin_47 : decode cX3_carryOutJoin 47 = .ok (.aload_n 0, 1) := by decide +kernel
theorem dX3_carryOutJoin_48 : decode cX3_carryOutJoin 48 = .ok (.getfield 35, 3) := by decide +kernel
theorem dX3_carryOutJoin_51 : decode cX3_carryOutJoin 51 = .ok (.iload_n 1, 1) := by decide +kernel
theorem dX3_carryOutJoin_52 : decode cX3_carryOutJoin 52 = .ok (.iaload, 1) := by decide +kernel
theorem dX3_carryOutJoin_53 : decode cX3_carryOutJoin 53 = .ok (.iadd, 1) := by decide +kernel
theorem dX3_carryOutJoin_54 : decode cX3_carryOutJoin 54 = .ok (.invokevirtual 116, 3) := by decide +kernel
theorem dX3_carryOutJoin_57 : decode cX3_carryOutJoin 57 = .ok (.iload_n 3, 1) := by decide +kernel
theorem dX3_carryOutJoin_58 : decode cX3_carryOutJoin 58 = .ok (.ireturn, 1) := by decide +kernel
theorem dX3_carryOutDays_0 : decode cX3_carryOutDays 0 = .ok (.iload_n 0, 1) := by decide +kernel
theorem dX3_carryOutDays_1 : decode cX3_carryOutDays 1 = .ok (.invokestatic 120, 3) := by decide +kernel
theorem dX3_carryOutDays_4 : decode cX3_carryOutDays 4 = .ok (.ifCond .ne 6, 3) := by decide +kernel
theorem dX3_carryOutDays_7 : decode cX3_carryOutDays 7 = .ok (.bipush (-3), 2) := by decide +kernel
theorem dX3_carryOutDays_9 : decode cX3_carryOutDays 9 = .ok (.ireturn, 1) := by decide +kernel
theorem dX3_carryOutDays_10 : decode cX3_carryOutDays 10 = .ok (.aload_n 1, 1) := by decide +kernel
theorem dX3_carryOutDays_11 : decode cX3_carryOutDays 11 = .ok (.iload_n 0, 1) := by decide +kernel
theorem dX3_carryOutDays_12 : decode cX3_carryOutDays 12 = .ok (.invokevirtual 123, 3) := by decide +kernel
theorem dX3_carryOutDays_15 : decode cX3_carryOutDays 15 = .ok (.iconst 0, 1) := by decide +kernel
theorem dX3_carryOutDays_16 : decode cX3_carryOutDays 16 = .ok (.ireturn, 1) := by decide +kernel
theorem dX4_init_0 : decode cX4_init 0 = .ok (.aload_n 0, 1) := by decide +kernel
theorem dX4_init_1 : decode cX4_init 1 = .ok (.invokespecial 3, 3) := by decide +kernel
theorem dX4_init_4 : decode cX4_init 4 = .ok (.aload_n 0, 1) := by decide +kernel
theorem dX4_init_5 : decode cX4_init 5 = .ok (.iconst 3, 1) := by decide +kernel
theorem dX4_init_6 : decode cX4_init 6 = .ok (.newarray .int, 2) := by decide +kernel
theorem dX4_init_8 : decode cX4_init 8 = .ok (.dup, 1) := by decide +kernel
theorem dX4_init_9 : decode cX4_init 9 = .ok (.iconst 0, 1) := by decide +kernel
theorem dX4_init_10 : decode cX4_init 10 = .ok (.bipush (-20), 2) := by decide +kernel
theorem dX4_init_12 : decode cX4_init 12 = .ok (.iastore, 1) := by decide +kernel
theorem dX4_init_13 : decode cX4_init 13 = .ok (.dup, 1) := by decide +kernel
theorem dX4_init_14 : decode cX4_init 14 = .ok (.iconst 1, 1) := by decide +kernel
theorem dX4_init_15 : decode cX4_init 15 = .ok (.bipush 100, 2) := by decide +kernel
theorem dX4_init_17 : decode cX4_init 17 = .ok (.iastore, 1) := by decide +kernel
theorem dX4_init_18 : decode cX4_init 18 = .ok (.dup, 1) := by decide +kernel
theorem dX4_init_19 : decode cX4_init 19 = .ok (.iconst 2, 1) := by decide +kernel
theorem dX4_init_20 : decode cX4_init 20 = .ok (.bipush 7, 2) := by decide +kernel
theorem dX4_init_22 : decode cX4_init 22 = .ok (.iastore, 1) := by decide +kernel
theorem dX4_init_23 : decode cX4_init 23 = .ok (.putfield 9, 3) := by decide +kernel
theorem dX4_init_26 : decode cX4_init 26 = .ok (.aload_n 0, 1) := by decide +kernel
theorem dX4_init_27 : decode cX4_init 27 = .ok (.iconst 0, 1) := by decide +kernel
theorem dX4_init_28 : decode cX4_init 28 = .ok (.putfield 15, 3) := by decide +kernel
theorem dX4_init_31 : decode cX4_init 31 = .ok (.aload_n 0, 1) := by decide +kernel
theorem dX4_init_32 : decode cX4_init 32 = .ok (.bipush 12, 2) := by decide +kernel
theorem dX4_init_34 : decode cX4_init 34 = .ok (.anewarray 19, 3) := by decide +kernel
theorem dX4_init_37 : decode cX4_init 37 = .ok (.putfield 21, 3) := by decide +kernel
theorem dX4_init_40 : decode cX4_init 40 = .ok (.aload_n 0, 1) := by decide +kernel
theorem dX4_init_41 : decode cX4_init 41 = .ok (.bipush 10, 2) := by decide +kernel
theorem dX4_init_43 : decode cX4_init 43 = .ok (.anewarray 25, 3) := by decide +kernel
theorem dX4_init_46 : decode cX4_init 46 = .ok (.putfield 27, 3) := by decide +kernel
theorem dX4_init_49 : decode cX4_init 49 = .ok (.aload_n 0, 1) := by decide +kernel
theorem dX4_init_50 : decode cX4_init 50 = .ok (.iconst 4, 1) := by decide +kernel
theorem dX4_init_51 : decode cX4_init 51 = .ok (.anewarray 31, 3) := by decide +kernel
theorem dX4_init_54 : decode cX4_init 54 = .ok (.putfield 33, 3) := by decide +kernel
theorem dX4_init_57 : decode cX4_init 57 = .ok (.aload_n 0, 1) := by decide +kernel
theorem dX4_init_58 : decode cX4_init 58 = .ok (.iconst 0, 1) := by decide +kernel
theorem dX4_init_59 : decode cX4_init 59 = .ok (.putfield 37, 3) := by decide +kernel
theorem dX4_init_62 : decode cX4_init 62 = .ok (.aload_n 0, 1) := by decide +kernel
theorem dX4_init_63 : decode cX4_init 63 = .ok (.iconst 0, 1) := by decide +kernel
theorem dX4_init_64 : decode cX4_init 64 = .ok (.putfield 40, 3) := by decide +kernel
theorem dX4_init_67 : decode cX4_init 67 = .ok (.aload_n 0, 1) := by decide +kernel
theorem dX4_init_68 : decode cX4_init 68 = .ok (.iconst 0, 1) := by decide +kernel
theorem dX4_init_69 : decode cX4_init 69 = .ok (.putfield 43, 3) := by decide +kernel
theorem dX4_init_72 : decode cX4_init 72 = .ok (.aload_n 0, 1) := by decide +kernel
theorem dX4_init_73 : decode cX4_init 73 = .ok (.iconst 0, 1) := by decide +kernel
theorem dX4_init_74 : decode cX4_init 74 = .ok (.putfield 46, 3) := by decide +kernel
theorem dX4_init_77 : decode cX4_init 77 = .ok (.iconst 0, 1) := by decide +kernel
theorem dX4_init_78 : decode cX4_init 78 = .ok (.istore_n 1, 1) := by decide +kernel
theorem dX4_init_79 : decode cX4_init 79 = .ok (.iload_n 1, 1) := by decide +kernel
theorem dX4_init_80 : decode cX4_init 80 = .ok (.bipush 12, 2) := by decide +kernel
theorem dX4_init_82 : decode cX4_init 82 = .ok (.if_icmp .ge 22, 3) := by decide +kernel
theorem dX4_init_85 : decode cX4_init 85 = .ok (.aload_n 0, 1) := by decide +kernel
theorem dX4_init_86 : decode cX4_init 86 = .ok (.getfield 21, 3) := by decide +kernel
theorem dX4_init_89 : decode cX4_init 89 = .ok (.iload_n 1, 1) := by decide +kernel
theorem dX4_init_90 : decode cX4_init 90 = .ok (.new 19, 3) := by decide +kernel
theorem dX4_init_93 : decode cX4_init 93 = .ok (.dup, 1) := by decide +kernel
theorem dX4_init_94 : decode cX4_init 94 = .ok (.invokespecial 49, 3) := by decide +kernel
theorem dX4_init_97 : decode cX4_init 97 = .ok (.aastore, 1) := by decide +kernel
theorem dX4_init_98 : decode cX4_init 98 = .ok (.iinc 1 1, 3) := by decide +kernel
theorem dX4_init_101 : decode cX4_init 101 = .ok (.goto (-22), 3) := by decide +kernel
theorem dX4_init_104 : decode cX4_init 104 = .ok (.iconst 0, 1) := by decide +kernel
theorem dX4_init_105 : decode cX4_init 105 = .ok (.istore_n 1, 1) := by decide +kernel
theorem dX4_init_106 : decode cX4_init 106 = .ok (.iload_n 1, 1) := by decide +kernel
theorem dX4_init_107 : decode cX4_init 107 = .ok (.iconst 4, 1) := by decide +kernel
theorem dX4_init_108 : decode cX4_init 108 = .ok (.if_icmp .ge 22, 3) := by decide +kernel
theorem dX4_init_111 : decode cX4_init 111 = .ok (.aload_n 0, 1) := by decide +kernel
theorem dX4_init_112 : decode cX4_init 112 = .ok (.getfield 33, 3) := by decide +kernel
theorem dX4_init_115 : decode cX4_init 115 = .ok (.iload_n 1, 1) := by decide +kernel
theorem dX4_init_116 : decode cX4_init 116 = .ok (.new 31, 3) := by decide +kernel
theorem dX4_init_119 : decode cX4_init 119 = .ok (.dup, 1) := by decide +kernel
theorem dX4_init_120 : decode cX4_init 120 = .ok (.invokespecial 50, 3) := by decide +kernel
theorem dX4_init_123 : decode cX4_init 123 = .ok (.aastore, 1) := by decide +kernel
theorem dX4_init_124 : decode cX4_init 124 = .ok (.iinc 1 1, 3) := by decide +kernel
theorem dX4_init_127 : decode cX4_init 127 = .ok (.goto (-21), 3) := by decide +kernel
theorem dX4_init_130 : decode cX4_init 130 = .ok (.return_, 1) := by decide +kernel
theorem dX4_copyFrom_0 : decode cX4_copyFrom 0 = .ok (.iconst 0, 1) := by decide +kernel
theorem dX4_copyFrom_1 : decode cX4_copyFrom 1 = .ok (.istore_n 2, 1) := by decide +kernel
theorem dX4_copyFrom_2 : decode cX4_copyFrom 2 = .ok (.iload_n 2, 1) := by decide +kernel
theorem dX4_copyFrom_3 : decode cX4_copyFrom 3 = .ok (.aload_n 0, 1) := by decide +kernel
theorem dX4_copyFrom_4 : decode cX4_copyFrom 4 = .ok (.getfield 9, 3) := by decide +kernel
theorem dX4_copyFrom_7 : decode cX4_copyFrom 7 = .ok (.arraylength, 1) := by decide +kernel
theorem dX4_copyFrom_8 : decode cX4_copyFrom 8 = .ok (.if_icmp .ge 21, 3) := by decide +kernel
theorem dX4_copyFrom_11 : decode cX4_copyFrom 11 = .ok (.aload_n 0, 1) := by decide +kernel
theorem dX4_copyFrom_12 : decode cX4_copyFrom 12 = .ok (.getfield 9, 3) := by decide +kernel
theorem dX4_copyFrom_15 : decode cX4_copyFrom 15 = .ok (.iload_n 2, 1) := by decide +kernel
theorem dX4_copyFrom_16 : decode cX4_copyFrom 16 = .ok (.aload_n 1, 1) := by decide +kernel
theorem dX4_copyFrom_17 : decode cX4_copyFrom 17 = .ok (.getfield 9, 3) := by decide +kernel
theorem dX4_copyFrom_20 : decode cX4_copyFrom 20 = .ok (.iload_n 2, 1) := by decide +kernel
theorem dX4_copyFrom_21 : decode cX4_copyFrom 21 = .ok (.iaload, 1) := by decide +kernel
theorem dX4_copyFrom_22 : decode cX4_copyFrom 22 = .ok (.iastore, 1) := by decide +kernel
theorem dX4_copyFrom_23 : decode cX4_copyFrom 23 = .ok (.iinc 2 1, 3) := by decide +kernel
theorem dX4_copyFrom_26 : decode cX4_copyFrom 26 = .ok (.goto (-24), 3) := by decide +kernel
theorem dX4_copyFrom_29 : decode cX4_copyFrom 29 = .ok (.aload_n 0, 1) := by decide +kernel
theorem dX4_copyFrom_30 : decode cX4_copyFrom 30 = .ok (.aload_n 1, 1) := by decide +kernel
theorem dX4_copyFrom_31 : decode cX4_copyFrom 31 = .ok (.getfield 15, 3) := by decide +kernel
theorem dX4_copyFrom_34 : decode cX4_copyFrom 34 = .ok (.putfield 15, 3) := by decide +kernel
theorem dX4_copyFrom_37 : decode cX4_copyFrom 37 = .ok (.iconst 0, 1) := by decide +kernel
theorem dX4_copyFrom_38 : decode cX4_copyFrom 38 = .ok (.istore_n 2, 1) := by decide +kernel
theorem dX4_copyFrom_39 : decode cX4_copyFrom 39 = .ok (.iload_n 2, 1) := by decide +kernel
theorem dX4_copyFrom_40 : decode cX4_copyFrom 40 = .ok (.bipush 12, 2) := by decide +kernel
theorem dX4_copyFrom_42 : decode cX4_copyFrom 42 = .ok (.if_icmp .ge 24, 3) := by decide +kernel
theorem dX4_copyFrom_45 : decode cX4_copyFrom 45 = .ok (.aload_n 0, 1) := by decide +kernel
theorem dX4_copyFrom_46 : decode cX4_copyFrom 46 = .ok (.getfield 21, 3) := by decide +kernel
theorem dX4_copyFrom_49 : decode cX4_copyFrom 49 = .ok (.iload_n 2, 1) := by decide +kernel
theorem dX4_copyFrom_50 : decode cX4_copyFrom 50 = .ok (.aaload, 1) := by decide +kernel
theorem dX4_copyFrom_51 : decode cX4_copyFrom 51 = .ok (.aload_n 1, 1) := by decide +kernel
theorem dX4_copyFrom_52 : decode cX4_copyFrom 52 = .ok (.getfield 21, 3) := by decide +kernel
theorem dX4_copyFrom_55 : decode cX4_copyFrom 55 = .ok (.iload_n 2, 1) := by decide +kernel
theorem dX4_copyFrom_56 : decode cX4_copyFrom 56 = .ok (.aaload, 1) := by decide +kernel
theorem dX4_copyFrom_57 : decode cX4_copyFrom 57 = .ok (.invokevirtual 51, 3) := by decide +kernel
theorem dX4_copyFrom_60 : decode cX4_copyFrom 60 = .ok (.iinc 2 1, 3) := by decide +kernel
theorem dX4_copyFrom_63 : decode cX4_copyFrom 63 = .ok (.goto (-24), 3) := by decide +kernel
theorem dX4_copyFrom_66 : decode cX4_copyFrom 66 = .ok (.iconst 0, 1) := by decide +kernel
theorem dX4_copyFrom_67 : decode cX4_copyFrom 67 = .ok (.istore_n 2, 1) := by decide +kernel
theorem dX4_copyFrom_68 : decode cX4_copyFrom 68 = .ok (.iload_n 2, 1) := by decide +kernel
theorem dX4_copyFrom_69 : decode cX4_copyFrom 69 = .ok (.aload_n 0, 1) := by decide +kernel
theorem dX4_copyFrom_70 : decode cX4_copyFrom 70 = .ok (.getfield 27, 3) := by decide +kernel
theorem dX4_copyFrom_73 : decode cX4_copyFrom 73 = .ok (.arraylength, 1) := by decide +kernel
theorem dX4_copyFrom_74 : decode cX4_copyFrom 74 = .ok (.if_icmp .ge 21, 3) := by decide +kernel
theorem dX4_copyFrom_77 : decode cX4_copyFrom 77 = .ok (.aload_n 0, 1) := by decide +kernel
theorem dX4_copyFrom_78 : decode cX4_copyFrom 78 = .ok (.getfield 27, 3) := by decide +kernel
theorem dX4_copyFrom_81 : decode cX4_copyFrom 81 = .ok (.iload_n 2, 1) := by decide +kernel
theorem dX4_copyFrom_82 : decode cX4_copyFrom 82 = .ok (.aload_n 1, 1) := by decide +kernel
theorem dX4_copyFrom_83 : decode cX4_copyFrom 83 = .ok (.getfield 27, 3) := by decide +kernel
theorem dX4_copyFrom_86 : decode cX4_copyFrom 86 = .ok (.iload_n 2, 1) := by decide +kernel
theorem dX4_copyFrom_87 : decode cX4_copyFrom 87 = .ok (.aaload, 1) := by decide +kernel
theorem dX4_copyFrom_88 : decode cX4_copyFrom 88 = .ok (.aastore, 1) := by decide +kernel
theorem dX4_copyFrom_89 : decode cX4_copyFrom 89 = .ok (.iinc 2 1, 3) := by decide +kernel
theorem dX4_copyFrom_92 : decode cX4_copyFrom 92 = .ok (.goto (-24), 3) := by decide +kernel
theorem dX4_copyFrom_95 : decode cX4_copyFrom 95 = .ok (.iconst 0, 1) := by decide +kernel
theorem dX4_copyFrom_96 : decode cX4_copyFrom 96 = .ok (.istore_n 2, 1) := by decide +kernel
theorem dX4_copyFrom_97 : decode cX4_copyFrom 97 = .ok (.iload_n 2, 1) := by decide +kernel
theorem dX4_copyFrom_98 : decode cX4_copyFrom 98 = .ok (.iconst 4, 1) := by decide +kernel
theorem dX4_copyFrom_99 : decode cX4_copyFrom 99 = .ok (.if_icmp .ge 24, 3) := by decide +kernel
theorem dX4_copyFrom_102 : decode cX4_copyFrom 102 = .ok (.aload_n 0, 1) := by decide +kernel
theorem dX4_copyFrom_103 : decode cX4_copyFrom 103 = .ok (.getfield 33, 3) := by decide +kernel
theorem dX4_copyFrom_106 : decode cX4_copyFrom 106 = .ok (.iload_n 2, 1) := by decide +kernel
theorem dX4_copyFrom_107 : decode cX4_copyFrom 107 = .ok (.aaload, 1) := by decide +kernel
theorem dX4_copyFrom_108 : decode cX4_copyFrom 108 = .ok (.aload_n 1, 1) := by decide +kernel
theorem dX4_copyFrom_109 : decode cX4_copyFrom 109 = .ok (.getfield 33, 3) := by decide +kernel
theorem dX4_copyFrom_112 : decode cX4_copyFrom 112 = .ok (.iload_n 2, 1) := by decide +kernel
theorem dX4_copyFrom_113 : decode cX4_copyFrom 113 = .ok (.aaload, 1) := by decide +kernel
theorem dX4_copyFrom_114 : decode cX4_copyFrom 114 = .ok (.invokevirtual 55, 3) := by decide +kernel
theorem dX4_copyFrom_117 : decode cX4_copyFrom 117 = .ok (.iinc 2 1, 3) := by decide +kernel
theorem dX4_copyFrom_120 : decode cX4_copyFrom 120 = .ok (.goto (-23), 3) := by decide +kernel
theorem dX4_copyFrom_123 : decode cX4_copyFrom 123 = .ok (.aload_n 0, 1) := by decide +kernel
theorem dX4_copyFrom_124 : decode cX4_copyFrom 124 = .ok (.aload_n 1, 1) := by decide +kernel
theorem dX4_copyFrom_125 : decode cX4_copyFrom 125 = .ok (.getfield 37, 3) := by decide +kernel
theorem dX4_copyFrom_128 : decode cX4_copyFrom 128 = .ok (.putfield 37, 3) := by decide +kernel
theorem dX4_copyFrom_131 : decode cX4_copyFrom 131 = .ok (.aload_n 0, 1) := by decide +kernel
theorem dX4_copyFrom_132 : decode cX4_copyFrom 132 = .ok (.aload_n 1, 1) := by decide +kernel
theorem dX4_copyFrom_133 : decode cX4_copyFrom 133 = .ok (.getfield 40, 3) := by decide +kernel
theorem dX4_copyFrom_136 : decode cX4_copyFrom 136 = .ok (.putfield 40, 3) := by decide +kernel
theorem dX4_copyFrom_139 : decode cX4_copyFrom 139 = .ok (.aload_n 0, 1) := by decide +kernel
theorem dX4_copyFrom_140 : decode cX4_copyFrom 140 = .ok (.aload_n 1, 1) := by decide +kernel
theorem dX4_copyFrom_141 : decode cX4_copyFrom 141 = .ok (.getfield 43, 3) := by decide +kernel
theorem dX4_copyFrom_144 : decode cX4_copyFrom 144 = .ok (.putfield 43, 3) := by decide +kernel
theorem dX4_copyFrom_147 : decode cX4_copyFrom 147 = .ok (.aload_n 0, 1) := by decide +kernel
theorem dX4_copyFrom_148 : decode cX4_copyFrom 148 = .ok (.aload_n 1, 1) := by decide +kernel
theorem dX4_copyFrom_149 : decode cX4_copyFrom 149 = .ok (.getfield 46, 3) := by decide +kernel
theorem dX4_copyFrom_152 : decode cX4_copyFrom 152 = .ok (.putfield 46, 3) := by decide +kernel
theorem dX4_copyFrom_155 : decode cX4_copyFrom 155 = .ok (.return_, 1) := by decide +kernel
theorem dX4_isConvoy_0 : decode cX4_isConvoy 0 = .ok (.iload_n 1, 1) := by decide +kernel
theorem dX4_isConvoy_1 : decode cX4_isConvoy 1 = .ok (.ifCond .lt 20, 3) := by decide +kernel
theorem dX4_isConvoy_4 : decode cX4_isConvoy 4 = .ok (.iload_n 1, 1) := by decide +kernel
theorem dX4_isConvoy_5 : decode cX4_isConvoy 5 = .ok (.aload_n 0, 1) := by decide +kernel
theorem dX4_isConvoy_6 : decode cX4_isConvoy 6 = .ok (.getfield 37, 3) := by decide +kernel
theorem dX4_isConvoy_9 : decode cX4_isConvoy 9 = .ok (.if_icmp .ge 12, 3) := by decide +kernel
theorem dX4_isConvoy_12 : decode cX4_isConvoy 12 = .ok (.iload_n 1, 1) := by decide +kernel
theorem dX4_isConvoy_13 : decode cX4_isConvoy 13 = .ok (.iconst 4, 1) := by decide +kernel
theorem dX4_isConvoy_14 : decode cX4_isConvoy 14 = .ok (.if_icmp .ge 7, 3) := by decide +kernel
theorem dX4_isConvoy_17 : decode cX4_isConvoy 17 = .ok (.iconst 1, 1) := by decide +kernel
theorem dX4_isConvoy_18 : decode cX4_isConvoy 18 = .ok (.goto 4, 3) := by decide +kernel
theorem dX4_isConvoy_21 : decode cX4_isConvoy 21 = .ok (.iconst 0, 1) := by decide +kernel
theorem dX4_isConvoy_22 : decode cX4_isConvoy 22 = .ok (.ireturn, 1) := by decide +kernel
theorem dX4_truckIn_0 : decode cX4_truckIn 0 = .ok (.aload_n 0, 1) := by decide +kernel
theorem dX4_truckIn_1 : decode cX4_truckIn 1 = .ok (.iload_n 1, 1) := by decide +kernel
theorem dX4_truckIn_2 : decode cX4_truckIn 2 = .ok (.invokevirtual 58, 3) := by decide +kernel
theorem dX4_truckIn_5 : decode cX4_truckIn 5 = .ok (.ifCond .eq 12, 3) := by decide +kernel
theorem dX4_truckIn_8 : decode cX4_truckIn 8 = .ok (.iload_n 2, 1) := by decide +kernel
theorem dX4_truckIn_9 : decode cX4_truckIn 9 = .ok (.ifCond .lt 8, 3) := by decide +kernel
theorem dX4_truckIn_12 : decode cX4_truckIn 12 = .ok (.iload_n 2, 1) := by decide +kernel
theorem dX4_truckIn_13 : decode cX4_truckIn 13 = .ok (.iconst 4, 1) := by decide +kernel
theorem dX4_truckIn_14 : decode cX4_truckIn 14 = .ok (.if_icmp .lt 5, 3) := by decide +kernel
theorem dX4_truckIn_17 : decode cX4_truckIn 17 = .ok (.aconst_null, 1) := by decide +kernel
theorem dX4_truckIn_18 : decode cX4_truckIn 18 = .ok (.areturn, 1) := by decide +kernel
theorem dX4_truckIn_19 : decode cX4_truckIn 19 = .ok (.aload_n 0, 1) := by decide +kernel
theorem dX4_truckIn_20 : decode cX4_truckIn 20 = .ok (.getfield 33, 3) := by decide +kernel
theorem dX4_truckIn_23 : decode cX4_truckIn 23 = .ok (.iload_n 1, 1) := by decide +kernel
theorem dX4_truckIn_24 : decode cX4_truckIn 24 = .ok (.aaload, 1) := by decide +kernel
theorem dX4_truckIn_25 : decode cX4_truckIn 25 = .ok (.getfield 62, 3) := by decide +kernel
theorem dX4_truckIn_28 : decode cX4_truckIn 28 = .ok (.iload_n 2, 1) := by decide +kernel
theorem dX4_truckIn_29 : decode cX4_truckIn 29 = .ok (.aaload, 1) := by decide +kernel
theorem dX4_truckIn_30 : decode cX4_truckIn 30 = .ok (.areturn, 1) := by decide +kernel
theorem dX4_noteIce_0 : decode cX4_noteIce 0 = .ok (.aload_n 1, 1) := by decide +kernel
theorem dX4_noteIce_1 : decode cX4_noteIce 1 = .ok (.aload_n 1, 1) := by decide +kernel
theorem dX4_noteIce_2 : decode cX4_noteIce 2 = .ok (.getfield 65, 3) := by decide +kernel
theorem dX4_noteIce_5 : decode cX4_noteIce 5 = .ok (.putfield 69, 3) := by decide +kernel
theorem dX4_noteIce_8 : decode cX4_noteIce 8 = .ok (.aload_n 1, 1) := by decide +kernel
theorem dX4_noteIce_9 : decode cX4_noteIce 9 = .ok (.aload_n 0, 1) := by decide +kernel
theorem dX4_noteIce_10 : decode cX4_noteIce 10 = .ok (.getfield 15, 3) := by decide +kernel
theorem dX4_noteIce_13 : decode cX4_noteIce 13 = .ok (.putfield 72, 3) := by decide +kernel
theorem dX4_noteIce_16 : decode cX4_noteIce 16 = .ok (.aload_n 0, 1) := by decide +kernel
theorem dX4_noteIce_17 : decode cX4_noteIce 17 = .ok (.dup, 1) := by decide +kernel
theorem dX4_noteIce_18 : decode cX4_noteIce 18 = .ok (.getfield 40, 3) := by decide +kernel
theorem dX4_noteIce_21 : decode cX4_noteIce 21 = .ok (.iconst 1, 1) := by decide +kernel
theorem dX4_noteIce_22 : decode cX4_noteIce 22 = .ok (.iadd, 1) := by decide +kernel
theorem dX4_noteIce_23 : decode cX4_noteIce 23 = .ok (.putfield 40, 3) := by decide +kernel
theorem dX4_noteIce_26 : decode cX4_noteIce 26 = .ok (.return_, 1) := by decide +kernel
theorem dX4_isDrillGood_0 : decode cX4_isDrillGood 0 = .ok (.aload_n 1, 1) := by decide +kernel
theorem dX4_isDrillGood_1 : decode cX4_isDrillGood 1 = .ok (.getfield 72, 3) := by decide +kernel
theorem dX4_isDrillGood_4 : decode cX4_isDrillGood 4 = .ok (.ifCond .lt 25, 3) := by decide +kernel
theorem dX4_isDrillGood_7 : decode cX4_isDrillGood 7 = .ok (.aload_n 0, 1) := by decide +kernel
theorem dX4_isDrillGood_8 : decode cX4_isDrillGood 8 = .ok (.getfield 15, 3) := by decide +kernel
theorem dX4_isDrillGood_11 : decode cX4_isDrillGood 11 = .ok (.aload_n 1, 1) := by decide +kernel
theorem dX4_isDrillGood_12 : decode cX4_isDrillGood 12 = .ok (.getfield 72, 3) := by decide +kernel
theorem dX4_isDrillGood_15 : decode cX4_isDrillGood 15 = .ok (.isub, 1) := by decide +kernel
theorem dX4_isDrillGood_16 : decode cX4_isDrillGood 16 = .ok (.aload_n 0, 1) := by decide +kernel
theorem dX4_isDrillGood_17 : decode cX4_isDrillGood 17 = .ok (.getfield 9, 3) := by decide +kernel
theorem dX4_isDrillGood_20 : decode cX4_isDrillGood 20 = .ok (.iconst 2, 1) := by decide +kernel
theorem dX4_isDrillGood_21 : decode cX4_isDrillGood 21 = .ok (.iaload, 1) := by decide +kernel
theorem dX4_isDrillGood_22 : decode cX4_isDrillGood 22 = .ok (.if_icmp .gt 7, 3) := by decide +kernel
theorem dX4_isDrillGood_25 : decode cX4_isDrillGood 25 = .ok (.iconst 1, 1) := by decide +kernel
theorem dX4_isDrillGood_26 : decode cX4_isDrillGood 26 = .ok (.goto 4, 3) := by decide +kernel
theorem dX4_isDrillGood_29 : decode cX4_isDrillGood 29 = .ok (.iconst 0, 1) := by decide +kernel
theorem dX4_isDrillGood_30 : decode cX4_isDrillGood 30 = .ok (.ireturn, 1) := by decide +kernel
theorem dX4_borneByDrill_0 : decode cX4_borneByDrill 0 = .ok (.aload_n 0, 1) := by decide +kernel
theorem dX4_borneByDrill_1 : decode cX4_borneByDrill 1 = .ok (.aload_n 1, 1) := by decide +kernel
theorem dX4_borneByDrill_2 : decode cX4_borneByDrill 2 = .ok (.aload_n 1, 1) := by decide +kernel
theorem dX4_borneByDrill_3 : decode cX4_borneByDrill 3 = .ok (.getfield 75, 3) := by decide +kernel
theorem dX4_borneByDrill_6 : decode cX4_borneByDrill 6 = .ok (.invokevirtual 78, 3) := by decide +kernel
theorem dX4_borneByDrill_9 : decode cX4_borneByDrill 9 = .ok (.freturn, 1) := by decide +kernel
theorem dX4_borneWithCracks_0 : decode cX4_borneWithCracks 0 = .ok (.aload_n 0, 1) := by decide +kernel
theorem dX4_borneWithCracks_1 : decode cX4_borneWithCracks 1 = .ok (.aload_n 1, 1) := by decide +kernel
theorem dX4_borneWithCracks_2 : decode cX4_borneWithCracks 2 = .ok (.invokevirtual 82, 3) := by decide +kernel
theorem dX4_borneWithCracks_5 : decode cX4_borneWithCracks 5 = .ok (.ifCond .eq 20, 3) := by decide +kernel
theorem dX4_borneWithCracks_8 : decode cX4_borneWithCracks 8 = .ok (.aload_n 1, 1) := by decide +kernel
theorem dX4_borneWithCracks_9 : decode cX4_borneWithCracks 9 = .ok (.getfield 69, 3) := by decide +kernel
theorem dX4_borneWithCracks_12 : decode cX4_borneWithCracks 12 = .ok (.iload_n 2, 1) := by decide +kernel
theorem dX4_borneWithCracks_13 : decode cX4_borneWithCracks 13 = .ok (.aload_n 0, 1) := by decide +kernel
theorem dX4_borneWithCracks_14 : decode cX4_borneWithCracks 14 = .ok (.getfield 9, 3) := by decide +kernel
theorem dX4_borneWithCracks_17 : decode cX4_borneWithCracks 17 = .ok (.iconst 1, 1) := by decide +kernel
theorem dX4_borneWithCracks_18 : decode cX4_borneWithCracks 18 = .ok (.iaload, 1) := by decide +kernel
theorem dX4_borneWithCracks_19 : decode cX4_borneWithCracks 19 = .ok (.invokestatic 86, 3) := by decide +kernel
theorem dX4_borneWithCracks_22 : decode cX4_borneWithCracks 22 = .ok (.goto 4, 3) := by decide +kernel
theorem dX4_borneWithCracks_25 : decode cX4_borneWithCracks 25 = .ok (.fconst 0, 1) := by decide +kernel
theorem dX4_borneWithCracks_26 : decode cX4_borneWithCracks 26 = .ok (.freturn, 1) := by decide +kernel
theorem dX4_freePlace_0 : decode cX4_freePlace 0 = .ok (.iconst 0, 1) := by decide +kernel
theorem dX4_freePlace_1 : decode cX4_freePlace 1 = .ok (.istore_n 2, 1) := by decide +kernel
theorem dX4_freePlace_2 : decode cX4_freePlace 2 = .ok (.iload_n 2, 1) := by decide +kernel
theorem dX4_freePlace_3 : decode cX4_freePlace 3 = .ok (.iconst 5, 1) := by decide +kernel
theorem dX4_freePlace_4 : decode cX4_freePlace 4 = .ok (.if_icmp .ge 24, 3) := by decide +kernel
theorem dX4_freePlace_7 : decode cX4_freePlace 7 = .ok (.aload_n 0, 1) := by decide +kernel
theorem dX4_freePlace_8 : decode cX4_freePlace 8 = .ok (.getfield 27, 3) := by decide +kernel
theorem dX4_freePlace_11 : decode cX4_freePlace 11 = .ok (.iload_n 1, 1) := by decide +kernel
theorem dX4_freePlace_12 : decode cX4_freePlace 12 = .ok (.iconst 5, 1) := by decide +kernel
theorem dX4_freePlace_13 : decode cX4_freePlace 13 = .ok (.imul, 1) := by decide +kernel
theorem dX4_freePlace_14 : decode cX4_freePlace 14 = .ok (.iload_n 2, 1) := by decide +kernel
theorem dX4_freePlace_15 : decode cX4_freePlace 15 = .ok (.iadd, 1) := by decide +kernel
theorem dX4_freePlace_16 : decode cX4_freePlace 16 = .ok (.aaload, 1) := by decide +kernel
theorem dX4_freePlace_17 : decode cX4_freePlace 17 = .ok (.ifnonnull 5, 3) := by decide +kernel
theorem dX4_freePlace_20 : decode cX4_freePlace 20 = .ok (.iload_n 2, 1) := by decide +kernel
theorem dX4_freePlace_21 : decode cX4_freePlace 21 = .ok (.ireturn, 1) := by decide +kernel
theorem dX4_freePlace_22 : decode cX4_freePlace 22 = .ok (.iinc 2 1, 3) := by decide +kernel
theorem dX4_freePlace_25 : decode cX4_freePlace 25 = .ok (.goto (-23), 3) := by decide +kernel
theorem dX4_freePlace_28 : decode cX4_freePlace 28 = .ok (.iconst (-1), 1) := by decide +kernel
theorem dX4_freePlace_29 : decode cX4_freePlace 29 = .ok (.ireturn, 1) := by decide +kernel
theorem dX4_convoyAt_0 : decode cX4_convoyAt 0 = .ok (.iconst 0, 1) := by decide +kernel
theorem dX4_convoyAt_1 : decode cX4_convoyAt 1 = .ok (.istore_n 2, 1) := by decide +kernel
theorem dX4_convoyAt_2 : decode cX4_convoyAt 2 = .ok (.iload_n 2, 1) := by decide +kernel
theorem dX4_convoyAt_3 : decode cX4_convoyAt 3 = .ok (.aload_n 0, 1) := by decide +kernel
theorem dX4_convoyAt_4 : decode cX4_convoyAt 4 = .ok (.getfield 37, 3) := by decide +kernel
theorem dX4_convoyAt_7 : decode cX4_convoyAt 7 = .ok (.if_icmp .ge 24, 3) := by decide +kernel
theorem dX4_convoyAt_10 : decode cX4_convoyAt 10 = .ok (.aload_n 0, 1) := by decide +kernel
theorem dX4_convoyAt_11 : decode cX4_convoyAt 11 = .ok (.getfield 33, 3) := by decide +kernel
theorem dX4_convoyAt_14 : decode cX4_convoyAt 14 = .ok (.iload_n 2, 1) := by decide +kernel
theorem dX4_convoyAt_15 : decode cX4_convoyAt 15 = .ok (.aaload, 1) := by decide +kernel
theorem dX4_convoyAt_16 : decode cX4_convoyAt 16 = .ok (.iload_n 1, 1) := by decide +kernel
theorem dX4_convoyAt_17 : decode cX4_convoyAt 17 = .ok (.invokevirtual 90, 3) := by decide +kernel
theorem dX4_convoyAt_20 : decode cX4_convoyAt 20 = .ok (.ifCond .lt 5, 3) := by decide +kernel
theorem dX4_convoyAt_23 : decode cX4_convoyAt 23 = .ok (.iload_n 2, 1) := by decide +kernel
theorem dX4_convoyAt_24 : decode cX4_convoyAt 24 = .ok (.ireturn, 1) := by decide +kernel
theorem dX4_convoyAt_25 : decode cX4_convoyAt 25 = .ok (.iinc 2 1, 3) := by decide +kernel
theorem dX4_convoyAt_28 : decode cX4_convoyAt 28 = .ok (.goto (-26), 3) := by decide +kernel
theorem dX4_convoyAt_31 : decode cX4_convoyAt 31 = .ok (.iconst (-1), 1) := by decide +kernel
theorem dX4_convoyAt_32 : decode cX4_convoyAt 32 = .ok (.ireturn, 1) := by decide +kernel
theorem dX4_isTakenByOther_0 : decode cX4_isTakenByOther 0 = .ok (.iconst 0, 1) := by decide +kernel
theorem dX4_isTakenByOther_1 : decode cX4_isTakenByOther 1 = .ok (.istore_n 3, 1) := by decide +kernel
theorem dX4_isTakenByOther_2 : decode cX4_isTakenByOther 2 = .ok (.iload_n 3, 1) := by decide +kernel
theorem dX4_isTakenByOther_3 : decode cX4_isTakenByOther 3 = .ok (.aload_n 0, 1) := by decide +kernel
theorem dX4_isTakenByOther_4 : decode cX4_isTakenByOther 4 = .ok (.getfield 37, 3) := by decide +kernel
theorem dX4_isTakenByOther_7 : decode cX4_isTakenByOther 7 = .ok (.if_icmp .ge 29, 3) := by decide +kernel
theorem dX4_isTakenByOther_10 : decode cX4_isTakenByOther 10 = .ok (.iload_n 3, 1) := by decide +kernel
theorem dX4_isTakenByOther_11 : decode cX4_isTakenByOther 11 = .ok (.iload_n 2, 1) := by decide +kernel
theorem dX4_isTakenByOther_12 : decode cX4_isTakenByOther 12 = .ok (.if_icmp .eq 18, 3) := by decide +kernel
theorem dX4_isTakenByOther_15 : decode cX4_isTakenByOther 15 = .ok (.aload_n 0, 1) := by decide +kernel
theorem dX4_isTakenByOther_16 : decode cX4_isTakenByOther 16 = .ok (.getfield 33, 3) := by decide +kernel
theorem dX4_isTakenByOther_19 : decode cX4_isTakenByOther 19 = .ok (.iload_n 3, 1) := by decide +kernel
theorem dX4_isTakenByOther_20 : decode cX4_isTakenByOther 20 = .ok (.aaload, 1) := by decide +kernel
theorem dX4_isTakenByOther_21 : decode cX4_isTakenByOther 21 = .ok (.iload_n 1, 1) := by decide +kernel
theorem dX4_isTakenByOther_22 : decode cX4_isTakenByOther 22 = .ok (.invokevirtual 90, 3) := by decide +kernel
theorem dX4_isTakenByOther_25 : decode cX4_isTakenByOther 25 = .ok (.ifCond .lt 5, 3) := by decide +kernel
theorem dX4_isTakenByOther_28 : decode cX4_isTakenByOther 28 = .ok (.iconst 1, 1) := by decide +kernel
theorem dX4_isTakenByOther_29 : decode cX4_isTakenByOther 29 = .ok (.ireturn, 1) := by decide +kernel
theorem dX4_isTakenByOther_30 : decode cX4_isTakenByOther 30 = .ok (.iinc 3 1, 3) := by decide +kernel
theorem dX4_isTakenByOther_33 : decode cX4_isTakenByOther 33 = .ok (.goto (-31), 3) := by decide +kernel
theorem dX4_isTakenByOther_36 : decode cX4_isTakenByOther 36 = .ok (.iconst 0, 1) := by decide +kernel
theorem dX4_isTakenByOther_37 : decode cX4_isTakenByOther 37 = .ok (.ireturn, 1) := by decide +kernel
theorem dX4_joinObstacle_0 : decode cX4_joinObstacle 0 = .ok (.aload_n 0, 1) := by decide +kernel
theorem dX4_joinObstacle_1 : decode cX4_joinObstacle 1 = .ok (.iload_n 1, 1) := by decide +kernel
theorem dX4_joinObstacle_2 : decode cX4_joinObstacle 2 = .ok (.invokevirtual 58, 3) := by decide +kernel
theorem dX4_joinObstacle_5 : decode cX4_joinObstacle 5 = .ok (.ifCond .eq 17, 3) := by decide +kernel
theorem dX4_joinObstacle_8 : decode cX4_joinObstacle 8 = .ok (.iload_n 2, 1) := by decide +kernel
theorem dX4_joinObstacle_9 : decode cX4_joinObstacle 9 = .ok (.invokestatic 94, 3) := by decide +kernel
theorem dX4_joinObstacle_12 : decode cX4_joinObstacle 12 = .ok (.ifCond .eq 10, 3) := by decide +kernel
theorem dX4_joinObstacle_15 : decode cX4_joinObstacle 15 = .ok (.iload_n 3, 1) := by decide +kernel
theorem dX4_joinObstacle_16 : decode cX4_joinObstacle 16 = .ok (.invokestatic 97, 3) := by decide +kernel
theorem dX4_joinObstacle_19 : decode cX4_joinObstacle 19 = .ok (.ifCond .ne 5, 3) := by decide +kernel
theorem dX4_joinObstacle_22 : decode cX4_joinObstacle 22 = .ok (.iconst (-1), 1) := by decide +kernel
theorem dX4_joinObstacle_23 : decode cX4_joinObstacle 23 = .ok (.ireturn, 1) := by decide +kernel
theorem dX4_joinObstacle_24 : decode cX4_joinObstacle 24 = .ok (.aload_n 0, 1) := by decide +kernel
theorem dX4_joinObstacle_25 : decode cX4_joinObstacle 25 = .ok (.getfield 27, 3) := by decide +kernel
theorem dX4_joinObstacle_28 : decode cX4_joinObstacle 28 = .ok (.iload_n 2, 1) := by decide +kernel
theorem dX4_joinObstacle_29 : decode cX4_joinObstacle 29 = .ok (.iconst 5, 1) := by decide +kernel
theorem dX4_joinObstacle_30 : decode cX4_joinObstacle 30 = .ok (.imul, 1) := by decide +kernel
theorem dX4_joinObstacle_31 : decode cX4_joinObstacle 31 = .ok (.iload_n 3, 1) := by decide +kernel
theorem dX4_joinObstacle_32 : decode cX4_joinObstacle 32 = .ok (.iadd, 1) := by decide +kernel
theorem dX4_joinObstacle_33 : decode cX4_joinObstacle 33 = .ok (.aaload, 1) := by decide +kernel
theorem dX4_joinObstacle_34 : decode cX4_joinObstacle 34 = .ok (.ifnonnull 6, 3) := by decide +kernel
theorem dX4_joinObstacle_37 : decode cX4_joinObstacle 37 = .ok (.bipush (-2), 2) := by decide +kernel
theorem dX4_joinObstacle_39 : decode cX4_joinObstacle 39 = .ok (.ireturn, 1) := by decide +kernel
theorem dX4_joinObstacle_40 : decode cX4_joinObstacle 40 = .ok (.aload_n 0, 1) := by decide +kernel
theorem dX4_joinObstacle_41 : decode cX4_joinObstacle 41 = .ok (.getfield 33, 3) := by decide +kernel
theorem dX4_joinObstacle_44 : decode cX4_joinObstacle 44 = .ok (.iload_n 1, 1) := by decide +kernel
theorem dX4_joinObstacle_45 : decode cX4_joinObstacle 45 = .ok (.aaload, 1) := by decide +kernel
theorem dX4_joinObstacle_46 : decode cX4_joinObstacle 46 = .ok (.invokevirtual 100, 3) := by decide +kernel
theorem dX4_joinObstacle_49 : decode cX4_joinObstacle 49 = .ok (.ifCond .eq 9, 3) := by decide +kernel
theorem dX4_joinObstacle_52 : decode cX4_joinObstacle 52 = .ok (.iconst 4, 1) := by decide +kernel
theorem dX4_joinObstacle_53 : decode cX4_joinObstacle 53 = .ok (.iload_n 1, 1) := by decide +kernel
theorem dX4_joinObstacle_54 : decode cX4_joinObstacle 54 = .ok (.invokestatic 104, 3) := by decide +kernel
theorem dX4_joinObstacle_57 : decode cX4_joinObstacle 57 = .ok (.ireturn, 1) := by decide +kernel
theorem dX4_joinObstacle_58 : decode cX4_joinObstacle 58 = .ok (.aload_n 0, 1) := by decide +kernel
theorem dX4_joinObstacle_59 : decode cX4_joinObstacle 59 = .ok (.getfield 33, 3) := by decide +kernel
theorem dX4_joinObstacle_62 : decode cX4_joinObstacle 62 = .ok (.iload_n 1, 1) := by decide +kernel
theorem dX4_joinObstacle_63 : decode cX4_joinObstacle 63 = .ok (.aaload, 1) := by decide +kernel
theorem dX4_joinObstacle_64 : decode cX4_joinObstacle 64 = .ok (.getfield 108, 3) := by decide +kernel
theorem dX4_joinObstacle_67 : decode cX4_joinObstacle 67 = .ok (.iconst 4, 1) := by decide +kernel
theorem dX4_joinObstacle_68 : decode cX4_joinObstacle 68 = .ok (.if_icmp .ge 7, 3) := by decide +kernel
theorem dX4_joinObstacle_71 : decode cX4_joinObstacle 71 = .ok (.iconst 0, 1) := by decide +kernel
theorem dX4_joinObstacle_72 : decode cX4_joinObstacle 72 = .ok (.goto 8, 3) := by decide +kernel
theorem dX4_joinObstacle_75 : decode cX4_joinObstacle 75 = .ok (.iconst 1, 1) := by decide +kernel
theorem dX4_joinObstacle_76 : decode cX4_joinObstacle 76 = .ok (.iconst 4, 1) := by decide +kernel
theorem dX4_joinObstacle_77 : decode cX4_joinObstacle 77 = .ok (.invokestatic 104, 3) := by decide +kernel
theorem dX4_joinObstacle_80 : decode cX4_joinObstacle 80 = .ok (.ireturn, 1) := by decide +kernel
theorem dX4_startObstacle_0 : decode cX4_startObstacle 0 = .ok (.aload_n 0, 1) := by decide +kernel
theorem dX4_startObstacle_1 : decode cX4_startObstacle 1 = .ok (.iload_n 1, 1) := by decide +kernel
theorem dX4_startObstacle_2 : decode cX4_startObstacle 2 = .ok (.invokevirtual 58, 3) := by decide +kernel
theorem dX4_startObstacle_5 : decode cX4_startObstacle 5 = .ok (.ifCond .ne 5, 3) := by decide +kernel
theorem dX4_startObstacle_8 : decode cX4_startObstacle 8 = .ok (.iconst (-1), 1) := by decide +kernel
theorem dX4_startObstacle_9 : decode cX4_startObstacle 9 = .ok (.ireturn, 1) := by decide +kernel
theorem dX4_startObstacle_10 : decode cX4_startObstacle 10 = .ok (.aload_n 0, 1) := by decide +kernel
theorem dX4_startObstacle_11 : decode cX4_startObstacle 11 = .ok (.getfield 33, 3) := by decide +kernel
theorem dX4_startObstacle_14 : decode cX4_startObstacle 14 = .ok (.iload_n 1, 1) := by decide +kernel
theorem dX4_startObstacle_15 : decode cX4_startObstacle 15 = .ok (.aaload, 1) := by decide +kernel
theorem dX4_startObstacle_16 : decode cX4_startObstacle 16 = .ok (.invokevirtual 100, 3) := by decide +kernel
theorem dX4_startObstacle_19 : decode cX4_startObstacle 19 = .ok (.ifCond .eq 9, 3) := by decide +kernel
theorem dX4_startObstacle_22 : decode cX4_startObstacle 22 = .ok (.iconst 4, 1) := by decide +kernel
theorem dX4_startObstacle_23 : decode cX4_startObstacle 23 = .ok (.iload_n 1, 1) := by decide +kernel
theorem dX4_startObstacle_24 : decode cX4_startObstacle 24 = .ok (.invokestatic 104, 3) := by decide +kernel
theorem dX4_startObstacle_27 : decode cX4_startObstacle 27 = .ok (.ireturn, 1) := by decide +kernel
theorem dX4_startObstacle_28 : decode cX4_startObstacle 28 = .ok (.aload_n 0, 1) := by decide +kernel
theorem dX4_startObstacle_29 : decode cX4_startObstacle 29 = .ok (.getfield 33, 3) := by decide +kernel
theorem dX4_startObstacle_32 : decode cX4_startObstacle 32 = .ok (.iload_n 1, 1) := by decide +kernel
theorem dX4_startObstacle_33 : decode cX4_startObstacle 33 = .ok (.aaload, 1) := by decide +kernel
theorem dX4_startObstacle_34 : decode cX4_startObstacle 34 = .ok (.getfield 108, 3) := by decide +kernel
theorem dX4_startObstacle_37 : decode cX4_startObstacle 37 = .ok (.ifCond .ne 9, 3) := by decide +kernel
theorem dX4_startObstacle_40 : decode cX4_startObstacle 40 = .ok (.iconst 5, 1) := by decide +kernel
theorem dX4_startObstacle_41 : decode cX4_startObstacle 41 = .ok (.iload_n 1, 1) := by decide +kernel
theorem dX4_startObstacle_42 : decode cX4_startObstacle 42 = .ok (.invokestatic 104, 3) := by decide +kernel
theorem dX4_startObstacle_45 : decode cX4_startObstacle 45 = .ok (.ireturn, 1) := by decide +kernel
theorem dX4_startObstacle_46 : decode cX4_startObstacle 46 = .ok (.aload_n 0, 1) := by decide +kernel
theorem dX4_startObstacle_47 : decode cX4_startObstacle 47 = .ok (.iload_n 1, 1) := by decide +kernel
theorem dX4_startObstacle_48 : decode cX4_startObstacle 48 = .ok (.invokevirtual 111, 3) := by decide +kernel
theorem dX4_startObstacle_51 : decode cX4_startObstacle 51 = .ok (.ireturn, 1) := by decide +kernel
theorem dX4_rollObstacle_0 : decode cX4_rollObstacle 0 = .ok (.aload_n 0, 1) := by decide +kernel
theorem dX4_rollObstacle_1 : decode cX4_rollObstacle 1 = .ok (.iload_n 1, 1) := by decide +kernel
theorem dX4_rollObstacle_2 : decode cX4_rollObstacle 2 = .ok (.invokevirtual 58, 3) := by decide +kernel
theorem dX4_rollObstacle_5 : decode cX4_rollObstacle 5 = .ok (.ifCond .ne 5, 3) := by decide +kernel
theorem dX4_rollObstacle_8 : decode cX4_rollObstacle 8 = .ok (.iconst (-1), 1) := by decide +kernel
theorem dX4_rollObstacle_9 : decode cX4_rollObstacle 9 = .ok (.ireturn, 1) := by decide +kernel
theorem dX4_rollObstacle_10 : decode cX4_rollObstacle 10 = .ok (.aload_n 0, 1) := by decide +kernel
theorem dX4_rollObstacle_11 : decode cX4_rollObstacle 11 = .ok (.getfield 33, 3) := by decide +kernel
theorem dX4_rollObstacle_14 : decode cX4_rollObstacle 14 = .ok (.iload_n 1, 1) := by decide +kernel
theorem dX4_rollObstacle_15 : decode cX4_rollObstacle 15 = .ok (.aaload, 1) := by decide +kernel
theorem dX4_rollObstacle_16 : decode cX4_rollObstacle 16 = .ok (.invokevirtual 100, 3) := by decide +kernel
theorem dX4_rollObstacle_19 : decode cX4_rollObstacle 19 = .ok (.ifCond .ne 9, 3) := by decide +kernel
theorem dX4_rollObstacle_22 : decode cX4_rollObstacle 22 = .ok (.iconst 4, 1) := by decide +kernel
theorem dX4_rollObstacle_23 : decode cX4_rollObstacle 23 = .ok (.iload_n 1, 1) := by decide +kernel
theorem dX4_rollObstacle_24 : decode cX4_rollObstacle 24 = .ok (.invokestatic 104, 3) := by decide +kernel
theorem dX4_rollObstacle_27 : decode cX4_rollObstacle 27 = .ok (.ireturn, 1) := by decide +kernel
theorem dX4_rollObstacle_28 : decode cX4_rollObstacle 28 = .ok (.aload_n 0, 1) := by decide +kernel
theorem dX4_rollObstacle_29 : decode cX4_rollObstacle 29 = .ok (.getfield 33, 3) := by decide +kernel
theorem dX4_rollObstacle_32 : decode cX4_rollObstacle 32 = .ok (.iload_n 1, 1) := by decide +kernel
theorem dX4_rollObstacle_33 : decode cX4_rollObstacle 33 = .ok (.aaload, 1) := by decide +kernel
theorem dX4_rollObstacle_34 : decode cX4_rollObstacle 34 = .ok (.invokevirtual 114, 3) := by decide +kernel
theorem dX4_rollObstacle_37 : decode cX4_rollObstacle 37 = .ok (.ifCond .eq 10, 3) := by decide +kernel
theorem dX4_rollObstacle_40 : decode cX4_rollObstacle 40 = .ok (.bipush 6, 2) := by decide +kernel
theorem dX4_rollObstacle_42 : decode cX4_rollObstacle 42 = .ok (.iload_n 1, 1) := by decide +kernel
theorem dX4_rollObstacle_43 : decode cX4_rollObstacle 43 = .ok (.invokestatic 104, 3) := by decide +kernel
theorem dX4_rollObstacle_46 : decode cX4_rollObstacle 46 = .ok (.ireturn, 1) := by decide +kernel
theorem dX4_rollObstacle_47 : decode cX4_rollObstacle 47 = .ok (.aload_n 0, 1) := by decide +kernel
theorem dX4_rollObstacle_48 : decode cX4_rollObstacle 48 = .ok (.iload_n 1, 1) := by decide +kernel
theorem dX4_rollObstacle_49 : decode cX4_rollObstacle 49 = .ok (.invokevirtual 111, 3) := by decide +kernel
theorem dX4_rollObstacle_52 : decode cX4_rollObstacle 52 = .ok (.ireturn, 1) := by decide +kernel
theorem dX4_wayObstacle_0 : decode cX4_wayObstacle 0 = .ok (.aload_n 0, 1) := by decide +kernel
theorem dX4_wayObstacle_1 : decode cX4_wayObstacle 1 = .ok (.getfield 33, 3) := by decide +kernel
theorem dX4_wayObstacle_4 : decode cX4_wayObstacle 4 = .ok (.iload_n 1, 1) := by decide +kernel
theorem dX4_wayObstacle_5 : decode cX4_wayObstacle 5 = .ok (.aaload, 1) := by decide +kernel
theorem dX4_wayObstacle_6 : decode cX4_wayObstacle 6 = .ok (.astore_n 2, 1) := by decide +kernel
theorem dX4_wayObstacle_7 : decode cX4_wayObstacle 7 = .ok (.aload_n 2, 1) := by decide +kernel
theorem dX4_wayObstacle_8 : decode cX4_wayObstacle 8 = .ok (.getfield 117, 3) := by decide +kernel
theorem dX4_wayObstacle_11 : decode cX4_wayObstacle 11 = .ok (.iconst 1, 1) := by decide +kernel
theorem dX4_wayObstacle_12 : decode cX4_wayObstacle 12 = .ok (.iadd, 1) := by decide +kernel
theorem dX4_wayObstacle_13 : decode cX4_wayObstacle 13 = .ok (.istore_n 3, 1) := by decide +kernel
theorem dX4_wayObstacle_14 : decode cX4_wayObstacle 14 = .ok (.iconst 0, 1) := by decide +kernel
theorem dX4_wayObstacle_15 : decode cX4_wayObstacle 15 = .ok (.istore 4, 2) := by decide +kernel
theorem dX4_wayObstacle_17 : decode cX4_wayObstacle 17 = .ok (.iload 4, 2) := by decide +kernel
theorem dX4_wayObstacle_19 : decode cX4_wayObstacle 19 = .ok (.iconst 4, 1) := by decide +kernel
theorem dX4_wayObstacle_20 : decode cX4_wayObstacle 20 = .ok (.if_icmp .ge 54, 3) := by decide +kernel
theorem dX4_wayObstacle_23 : decode cX4_wayObstacle 23 = .ok (.aload_n 2, 1) := by decide +kernel
theorem dX4_wayObstacle_24 : decode cX4_wayObstacle 24 = .ok (.iload 4, 2) := by decide +kernel
theorem dX4_wayObstacle_26 : decode cX4_wayObstacle 26 = .ok (.iload_n 3, 1) := by decide +kernel
theorem dX4_wayObstacle_27 : decode cX4_wayObstacle 27 = .ok (.invokevirtual 120, 3) := by decide +kernel
theorem dX4_wayObstacle_30 : decode cX4_wayObstacle 30 = .ok (.istore 5, 2) := by decide +kernel
theorem dX4_wayObstacle_32 : decode cX4_wayObstacle 32 = .ok (.aload_n 2, 1) := by decide +kernel
theorem dX4_wayObstacle_33 : decode cX4_wayObstacle 33 = .ok (.getfield 62, 3) := by decide +kernel
theorem dX4_wayObstacle_36 : decode cX4_wayObstacle 36 = .ok (.iload 4, 2) := by decide +kernel
theorem dX4_wayObstacle_38 : decode cX4_wayObstacle 38 = .ok (.aaload, 1) := by decide +kernel
theorem dX4_wayObstacle_39 : decode cX4_wayObstacle 39 = .ok (.ifnull 29, 3) := by decide +kernel
theorem dX4_wayObstacle_42 : decode cX4_wayObstacle 42 = .ok (.iload 5, 2) := by decide +kernel
theorem dX4_wayObstacle_44 : decode cX4_wayObstacle 44 = .ok (.invokestatic 123, 3) := by decide +kernel
theorem dX4_wayObstacle_47 : decode cX4_wayObstacle 47 = .ok (.ifCond .eq 21, 3) := by decide +kernel
theorem dX4_wayObstacle_50 : decode cX4_wayObstacle 50 = .ok (.aload_n 0, 1) := by decide +kernel
theorem dX4_wayObstacle_51 : decode cX4_wayObstacle 51 = .ok (.iload 5, 2) := by decide +kernel
theorem dX4_wayObstacle_53 : decode cX4_wayObstacle 53 = .ok (.iload_n 1, 1) := by decide +kernel
theorem dX4_wayObstacle_54 : decode cX4_wayObstacle 54 = .ok (.invokevirtual 126, 3) := by decide +kernel
theorem dX4_wayObstacle_57 : decode cX4_wayObstacle 57 = .ok (.ifCond .eq 11, 3) := by decide +kernel
theorem dX4_wayObstacle_60 : decode cX4_wayObstacle 60 = .ok (.bipush 7, 2) := by decide +kernel
theorem dX4_wayObstacle_62 : decode cX4_wayObstacle 62 = .ok (.iload 5, 2) := by decide +kernel
theorem dX4_wayObstacle_64 : decode cX4_wayObstacle 64 = .ok (.invokestatic 104, 3) := by decide +kernel
theorem dX4_wayObstacle_67 : decode cX4_wayObstacle 67 = .ok (.ireturn, 1) := by decide +kernel
theorem dX4_wayObstacle_68 : decode cX4_wayObstacle 68 = .ok (.iinc 4 1, 3) := by decide +kernel
theorem dX4_wayObstacle_71 : decode cX4_wayObstacle 71 = .ok (.goto (-54), 3) := by decide +kernel
theorem dX4_wayObstacle_74 : decode cX4_wayObstacle 74 = .ok (.iconst 0, 1) := by decide +kernel
theorem dX4_wayObstacle_75 : decode cX4_wayObstacle 75 = .ok (.istore 4, 2) := by decide +kernel
theorem dX4_wayObstacle_77 : decode cX4_wayObstacle 77 = .ok (.iload 4, 2) := by decide +kernel
theorem dX4_wayObstacle_79 : decode cX4_wayObstacle 79 = .ok (.iconst 4, 1) := by decide +kernel
theorem dX4_wayObstacle_80 : decode cX4_wayObstacle 80 = .ok (.if_icmp .ge 68, 3) := by decide +kernel
theorem dX4_wayObstacle_83 : decode cX4_wayObstacle 83 = .ok (.aload_n 2, 1) := by decide +kernel
theorem dX4_wayObstacle_84 : decode cX4_wayObstacle 84 = .ok (.iload 4, 2) := by decide +kernel
theorem dX4_wayObstacle_86 : decode cX4_wayObstacle 86 = .ok (.iload_n 3, 1) := by decide +kernel
theorem dX4_wayObstacle_87 : decode cX4_wayObstacle 87 = .ok (.invokevirtual 120, 3) := by decide +kernel
theorem dX4_wayObstacle_90 : decode cX4_wayObstacle 90 = .ok (.istore 5, 2) := by decide +kernel
theorem dX4_wayObstacle_92 : decode cX4_wayObstacle 92 = .ok (.aload_n 2, 1) := by decide +kernel
theorem dX4_wayObstacle_93 : decode cX4_wayObstacle 93 = .ok (.getfield 62, 3) := by decide +kernel
theorem dX4_wayObstacle_96 : decode cX4_wayObstacle 96 = .ok (.iload 4, 2) := by decide +kernel
theorem dX4_wayObstacle_98 : decode cX4_wayObstacle 98 = .ok (.aaload, 1) := by decide +kernel
theorem dX4_wayObstacle_99 : decode cX4_wayObstacle 99 = .ok (.astore 6, 2) := by decide +kernel
theorem dX4_wayObstacle_101 : decode cX4_wayObstacle 101 = .ok (.aload 6, 2) := by decide +kernel
theorem dX4_wayObstacle_103 : decode cX4_wayObstacle 103 = .ok (.ifnull 39, 3) := by decide +kernel
theorem dX4_wayObstacle_106 : decode cX4_wayObstacle 106 = .ok (.iload 5, 2) := by decide +kernel
theorem dX4_wayObstacle_108 : decode cX4_wayObstacle 108 = .ok (.invokestatic 123, 3) := by decide +kernel
theorem dX4_wayObstacle_111 : decode cX4_wayObstacle 111 = .ok (.ifCond .eq 31, 3) := by decide +kernel
theorem dX4_wayObstacle_114 : decode cX4_wayObstacle 114 = .ok (.aload_n 0, 1) := by decide +kernel
theorem dX4_wayObstacle_115 : decode cX4_wayObstacle 115 = .ok (.aload_n 0, 1) := by decide +kernel
theorem dX4_wayObstacle_116 : decode cX4_wayObstacle 116 = .ok (.getfield 21, 3) := by decide +kernel
theorem dX4_wayObstacle_119 : decode cX4_wayObstacle 119 = .ok (.iload 5, 2) := by decide +kernel
theorem dX4_wayObstacle_121 : decode cX4_wayObstacle 121 = .ok (.aaload, 1) := by decide +kernel
theorem dX4_wayObstacle_122 : decode cX4_wayObstacle 122 = .ok (.invokevirtual 130, 3) := by decide +kernel
theorem dX4_wayObstacle_125 : decode cX4_wayObstacle 125 = .ok (.aload 6, 2) := by decide +kernel
theorem dX4_wayObstacle_127 : decode cX4_wayObstacle 127 = .ok (.invokevirtual 134, 3) := by decide +kernel
theorem dX4_wayObstacle_130 : decode cX4_wayObstacle 130 = .ok (.fcmp .g, 1) := by decide +kernel
theorem dX4_wayObstacle_131 : decode cX4_wayObstacle 131 = .ok (.ifCond .ge 11, 3) := by decide +kernel
theorem dX4_wayObstacle_134 : decode cX4_wayObstacle 134 = .ok (.bipush 8, 2) := by decide +kernel
theorem dX4_wayObstacle_136 : decode cX4_wayObstacle 136 = .ok (.iload 5, 2) := by decide +kernel
theorem dX4_wayObstacle_138 : decode cX4_wayObstacle 138 = .ok (.invokestatic 104, 3) := by decide +kernel
theorem dX4_wayObstacle_141 : decode cX4_wayObstacle 141 = .ok (.ireturn, 1) := by decide +kernel
theorem dX4_wayObstacle_142 : decode cX4_wayObstacle 142 = .ok (.iinc 4 1, 3) := by decide +kernel
theorem dX4_wayObstacle_145 : decode cX4_wayObstacle 145 = .ok (.goto (-68), 3) := by decide +kernel
theorem dX4_wayObstacle_148 : decode cX4_wayObstacle 148 = .ok (.iconst 0, 1) := by decide +kernel
theorem dX4_wayObstacle_149 : decode cX4_wayObstacle 149 = .ok (.ireturn, 1) := by decide +kernel
theorem dX4_letJoin_0 : decode cX4_letJoin 0 = .ok (.aload_n 1, 1) := by decide +kernel
theorem dX4_letJoin_1 : decode cX4_letJoin 1 = .ok (.getfield 62, 3) := by decide +kernel
theorem dX4_letJoin_4 : decode cX4_letJoin 4 = .ok (.aload_n 1, 1) := by decide +kernel
theorem dX4_letJoin_5 : decode cX4_letJoin 5 = .ok (.getfield 108, 3) := by decide +kernel
theorem dX4_letJoin_8 : decode cX4_letJoin 8 = .ok (.aload_n 0, 1) := by decide +kernel
theorem dX4_letJoin_9 : decode cX4_letJoin 9 = .ok (.getfield 27, 3) := by decide +kernel
theorem dX4_letJoin_12 : decode cX4_letJoin 12 = .ok (.iload_n 2, 1) := by decide +kernel
theorem dX4_letJoin_13 : decode cX4_letJoin 13 = .ok (.aaload, 1) := by decide +kernel
theorem dX4_letJoin_14 : decode cX4_letJoin 14 = .ok (.aastore, 1) := by decide +kernel
theorem dX4_letJoin_15 : decode cX4_letJoin 15 = .ok (.aload_n 1, 1) := by decide +kernel
theorem dX4_letJoin_16 : decode cX4_letJoin 16 = .ok (.dup, 1) := by decide +kernel
theorem dX4_letJoin_17 : decode cX4_letJoin 17 = .ok (.getfield 108, 3) := by decide +kernel
theorem dX4_letJoin_20 : decode cX4_letJoin 20 = .ok (.iconst 1, 1) := by decide +kernel
theorem dX4_letJoin_21 : decode cX4_letJoin 21 = .ok (.iadd, 1) := by decide +kernel
theorem dX4_letJoin_22 : decode cX4_letJoin 22 = .ok (.putfield 108, 3) := by decide +kernel
theorem dX4_letJoin_25 : decode cX4_letJoin 25 = .ok (.aload_n 0, 1) := by decide +kernel
theorem dX4_letJoin_26 : decode cX4_letJoin 26 = .ok (.getfield 27, 3) := by decide +kernel
theorem dX4_letJoin_29 : decode cX4_letJoin 29 = .ok (.iload_n 2, 1) := by decide +kernel
theorem dX4_letJoin_30 : decode cX4_letJoin 30 = .ok (.aconst_null, 1) := by decide +kernel
theorem dX4_letJoin_31 : decode cX4_letJoin 31 = .ok (.aastore, 1) := by decide +kernel
theorem dX4_letJoin_32 : decode cX4_letJoin 32 = .ok (.return_, 1) := by decide +kernel
theorem dX4_advance_0 : decode cX4_advance 0 = .ok (.aload_n 1, 1) := by decide +kernel
theorem dX4_advance_1 : decode cX4_advance 1 = .ok (.dup, 1) := by decide +kernel
theorem dX4_advance_2 : decode cX4_advance 2 = .ok (.getfield 117, 3) := by decide +kernel
theorem dX4_advance_5 : decode cX4_advance 5 = .ok (.iconst 1, 1) := by decide +kernel
theorem dX4_advance_6 : decode cX4_advance 6 = .ok (.iadd, 1) := by decide +kernel
theorem dX4_advance_7 : decode cX4_advance 7 = .ok (.putfield 117, 3) := by decide +kernel
theorem dX4_advance_10 : decode cX4_advance 10 = .ok (.iconst 0, 1) := by decide +kernel
theorem dX4_advance_11 : decode cX4_advance 11 = .ok (.istore_n 2, 1) := by decide +kernel
theorem dX4_advance_12 : decode cX4_advance 12 = .ok (.iload_n 2, 1) := by decide +kernel
theorem dX4_advance_13 : decode cX4_advance 13 = .ok (.iconst 4, 1) := by decide +kernel
theorem dX4_advance_14 : decode cX4_advance 14 = .ok (.if_icmp .ge 70, 3) := by decide +kernel
theorem dX4_advance_17 : decode cX4_advance 17 = .ok (.aload_n 1, 1) := by decide +kernel
theorem dX4_advance_18 : decode cX4_advance 18 = .ok (.getfield 62, 3) := by decide +kernel
theorem dX4_advance_21 : decode cX4_advance 21 = .ok (.iload_n 2, 1) := by decide +kernel
theorem dX4_advance_22 : decode cX4_advance 22 = .ok (.aaload, 1) := by decide +kernel
theorem dX4_advance_23 : decode cX4_advance 23 = .ok (.astore_n 3, 1) := by decide +kernel
theorem dX4_advance_24 : decode cX4_advance 24 = .ok (.aload_n 1, 1) := by decide +kernel
theorem dX4_advance_25 : decode cX4_advance 25 = .ok (.iload_n 2, 1) := by decide +kernel
theorem dX4_advance_26 : decode cX4_advance 26 = .ok (.invokevirtual 138, 3) := by decide +kernel
theorem dX4_advance_29 : decode cX4_advance 29 = .ok (.istore 4, 2) := by decide +kernel
theorem dX4_advance_31 : decode cX4_advance 31 = .ok (.aload_n 3, 1) := by decide +kernel
theorem dX4_advance_32 : decode cX4_advance 32 = .ok (.ifnull 22, 3) := by decide +kernel
theorem dX4_advance_35 : decode cX4_advance 35 = .ok (.iload 4, 2) := by decide +kernel
theorem dX4_advance_37 : decode cX4_advance 37 = .ok (.invokestatic 123, 3) := by decide +kernel
theorem dX4_advance_40 : decode cX4_advance 40 = .ok (.ifCond .eq 14, 3) := by decide +kernel
theorem dX4_advance_43 : decode cX4_advance 43 = .ok (.aload_n 0, 1) := by decide +kernel
theorem dX4_advance_44 : decode cX4_advance 44 = .ok (.getfield 21, 3) := by decide +kernel
theorem dX4_advance_47 : decode cX4_advance 47 = .ok (.iload 4, 2) := by decide +kernel
theorem dX4_advance_49 : decode cX4_advance 49 = .ok (.aaload, 1) := by decide +kernel
theorem dX4_advance_50 : decode cX4_advance 50 = .ok (.aload_n 3, 1) := by decide +kernel
theorem dX4_advance_51 : decode cX4_advance 51 = .ok (.invokevirtual 141, 3) := by decide +kernel
theorem dX4_advance_54 : decode cX4_advance 54 = .ok (.aload_n 3, 1) := by decide +kernel
theorem dX4_advance_55 : decode cX4_advance 55 = .ok (.ifnull 23, 3) := by decide +kernel
theorem dX4_advance_58 : decode cX4_advance 58 = .ok (.iload 4, 2) := by decide +kernel
theorem dX4_advance_60 : decode cX4_advance 60 = .ok (.bipush 12, 2) := by decide +kernel
theorem dX4_advance_62 : decode cX4_advance 62 = .ok (.if_icmp .ne 16, 3) := by decide +kernel
theorem dX4_advance_65 : decode cX4_advance 65 = .ok (.aload_n 0, 1) := by decide +kernel
theorem dX4_advance_66 : decode cX4_advance 66 = .ok (.dup, 1) := by decide +kernel
theorem dX4_advance_67 : decode cX4_advance 67 = .ok (.getfield 46, 3) := by decide +kernel
theorem dX4_advance_70 : decode cX4_advance 70 = .ok (.aload_n 3, 1) := by decide +kernel
theorem dX4_advance_71 : decode cX4_advance 71 = .ok (.getfield 145, 3) := by decide +kernel
theorem dX4_advance_74 : decode cX4_advance 74 = .ok (.iadd, 1) := by decide +kernel
theorem dX4_advance_75 : decode cX4_advance 75 = .ok (.putfield 46, 3) := by decide +kernel
theorem dX4_advance_78 : decode cX4_advance 78 = .ok (.iinc 2 1, 3) := by decide +kernel
theorem dX4_advance_81 : decode cX4_advance 81 = .ok (.goto (-69), 3) := by decide +kernel
theorem dX4_advance_84 : decode cX4_advance 84 = .ok (.return_, 1) := by decide +kernel
theorem dX4_countRollsAhead_0 : decode cX4_countRollsAhead 0 = .ok (.aload_n 0, 1) := by decide +kernel
theorem dX4_countRollsAhead_1 : decode cX4_countRollsAhead 1 = .ok (.getfield 33, 3) := by decide +kernel
theorem dX4_countRollsAhead_4 : decode cX4_countRollsAhead 4 = .ok (.iload_n 1, 1) := by decide +kernel
theorem dX4_countRollsAhead_5 : decode cX4_countRollsAhead 5 = .ok (.aaload, 1) := by decide +kernel
theorem dX4_countRollsAhead_6 : decode cX4_countRollsAhead 6 = .ok (.astore_n 2, 1) := by decide +kernel
theorem dX4_countRollsAhead_7 : decode cX4_countRollsAhead 7 = .ok (.aload_n 2, 1) := by decide +kernel
theorem dX4_countRollsAhead_8 : decode cX4_countRollsAhead 8 = .ok (.invokevirtual 100, 3) := by decide +kernel
theorem dX4_countRollsAhead_11 : decode cX4_countRollsAhead 11 = .ok (.ifCond .ne 5, 3) := by decide +kernel
theorem dX4_countRollsAhead_14 : decode cX4_countRollsAhead 14 = .ok (.iconst 0, 1) := by decide +kernel
theorem dX4_countRollsAhead_15 : decode cX4_countRollsAhead 15 = .ok (.ireturn, 1) := by decide +kernel
theorem dX4_countRollsAhead_16 : decode cX4_countRollsAhead 16 = .ok (.bipush 12, 2) := by decide +kernel
theorem dX4_countRollsAhead_18 : decode cX4_countRollsAhead 18 = .ok (.aload_n 2, 1) := by decide +kernel
theorem dX4_countRollsAhead_19 : decode cX4_countRollsAhead 19 = .ok (.getfield 108, 3) := by decide +kernel
theorem dX4_countRollsAhead_22 : decode cX4_countRollsAhead 22 = .ok (.iconst 1, 1) := by decide +kernel
theorem dX4_countRollsAhead_23 : decode cX4_countRollsAhead 23 = .ok (.isub, 1) := by decide +kernel
theorem dX4_countRollsAhead_24 : decode cX4_countRollsAhead 24 = .ok (.aload_n 2, 1) := by decide +kernel
theorem dX4_countRollsAhead_25 : decode cX4_countRollsAhead 25 = .ok (.getfield 148, 3) := by decide +kernel
theorem dX4_countRollsAhead_28 : decode cX4_countRollsAhead 28 = .ok (.iconst 1, 1) := by decide +kernel
theorem dX4_countRollsAhead_29 : decode cX4_countRollsAhead 29 = .ok (.iadd, 1) := by decide +kernel
theorem dX4_countRollsAhead_30 : decode cX4_countRollsAhead 30 = .ok (.imul, 1) := by decide +kernel
theorem dX4_countRollsAhead_31 : decode cX4_countRollsAhead 31 = .ok (.iadd, 1) := by decide +kernel
theorem dX4_countRollsAhead_32 : decode cX4_countRollsAhead 32 = .ok (.istore_n 3, 1) := by decide +kernel
theorem dX4_countRollsAhead_33 : decode cX4_countRollsAhead 33 = .ok (.aload_n 2, 1) := by decide +kernel
theorem dX4_countRollsAhead_34 : decode cX4_countRollsAhead 34 = .ok (.getfield 117, 3) := by decide +kernel
theorem dX4_countRollsAhead_37 : decode cX4_countRollsAhead 37 = .ok (.istore 4, 2) := by decide +kernel
theorem dX4_countRollsAhead_39 : decode cX4_countRollsAhead 39 = .ok (.iload 4, 2) := by decide +kernel
theorem dX4_countRollsAhead_41 : decode cX4_countRollsAhead 41 = .ok (.iload_n 3, 1) := by decide +kernel
theorem dX4_countRollsAhead_42 : decode cX4_countRollsAhead 42 = .ok (.if_icmp .ge 21, 3) := by decide +kernel
theorem dX4_countRollsAhead_45 : decode cX4_countRollsAhead 45 = .ok (.aload_n 0, 1) := by decide +kernel
theorem dX4_countRollsAhead_46 : decode cX4_countRollsAhead 46 = .ok (.iload_n 1, 1) := by decide +kernel
theorem dX4_countRollsAhead_47 : decode cX4_countRollsAhead 47 = .ok (.iload 4, 2) := by decide +kernel
theorem dX4_countRollsAhead_49 : decode cX4_countRollsAhead 49 = .ok (.iconst 1, 1) := by decide +kernel
theorem dX4_countRollsAhead_50 : decode cX4_countRollsAhead 50 = .ok (.iadd, 1) := by decide +kernel
theorem dX4_countRollsAhead_51 : decode cX4_countRollsAhead 51 = .ok (.invokevirtual 151, 3) := by decide +kernel
theorem dX4_countRollsAhead_54 : decode cX4_countRollsAhead 54 = .ok (.ifCond .eq 9, 3) := by decide +kernel
theorem dX4_countRollsAhead_57 : decode cX4_countRollsAhead 57 = .ok (.iinc 4 1, 3) := by decide +kernel
theorem dX4_countRollsAhead_60 : decode cX4_countRollsAhead 60 = .ok (.goto (-21), 3) := by decide +kernel
theorem dX4_countRollsAhead_63 : decode cX4_countRollsAhead 63 = .ok (.iload 4, 2) := by decide +kernel
theorem dX4_countRollsAhead_65 : decode cX4_countRollsAhead 65 = .ok (.aload_n 2, 1) := by decide +kernel
theorem dX4_countRollsAhead_66 : decode cX4_countRollsAhead 66 = .ok (.getfield 117, 3) := by decide +kernel
theorem dX4_countRollsAhead_69 : decode cX4_countRollsAhead 69 = .ok (.isub, 1) := by decide +kernel
theorem dX4_countRollsAhead_70 : decode cX4_countRollsAhead 70 = .ok (.ireturn, 1) := by decide +kernel
theorem dX4_couldLeadBe_0 : decode cX4_couldLeadBe 0 = .ok (.aload_n 0, 1) := by decide +kernel
theorem dX4_couldLeadBe_1 : decode cX4_couldLeadBe 1 = .ok (.getfield 33, 3) := by decide +kernel
theorem dX4_couldLeadBe_4 : decode cX4_couldLeadBe 4 = .ok (.iload_n 1, 1) := by decide +kernel
theorem dX4_couldLeadBe_5 : decode cX4_couldLeadBe 5 = .ok (.aaload, 1) := by decide +kernel
theorem dX4_couldLeadBe_6 : decode cX4_couldLeadBe 6 = .ok (.astore_n 3, 1) := by decide +kernel
theorem dX4_couldLeadBe_7 : decode cX4_couldLeadBe 7 = .ok (.iconst 0, 1) := by decide +kernel
theorem dX4_couldLeadBe_8 : decode cX4_couldLeadBe 8 = .ok (.istore 4, 2) := by decide +kernel
theorem dX4_couldLeadBe_10 : decode cX4_couldLeadBe 10 = .ok (.iload 4, 2) := by decide +kernel
theorem dX4_couldLeadBe_12 : decode cX4_couldLeadBe 12 = .ok (.iconst 4, 1) := by decide +kernel
theorem dX4_couldLeadBe_13 : decode cX4_couldLeadBe 13 = .ok (.if_icmp .ge 94, 3) := by decide +kernel
theorem dX4_couldLeadBe_16 : decode cX4_couldLeadBe 16 = .ok (.aload_n 3, 1) := by decide +kernel
theorem dX4_couldLeadBe_17 : decode cX4_couldLeadBe 17 = .ok (.getfield 62, 3) := by decide +kernel
theorem dX4_couldLeadBe_20 : decode cX4_couldLeadBe 20 = .ok (.iload 4, 2) := by decide +kernel
theorem dX4_couldLeadBe_22 : decode cX4_couldLeadBe 22 = .ok (.aaload, 1) := by decide +kernel
theorem dX4_couldLeadBe_23 : decode cX4_couldLeadBe 23 = .ok (.astore 5, 2) := by decide +kernel
theorem dX4_couldLeadBe_25 : decode cX4_couldLeadBe 25 = .ok (.aload_n 3, 1) := by decide +kernel
theorem dX4_couldLeadBe_26 : decode cX4_couldLeadBe 26 = .ok (.iload 4, 2) := by decide +kernel
theorem dX4_couldLeadBe_28 : decode cX4_couldLeadBe 28 = .ok (.iload_n 2, 1) := by decide +kernel
theorem dX4_couldLeadBe_29 : decode cX4_couldLeadBe 29 = .ok (.invokevirtual 120, 3) := by decide +kernel
theorem dX4_couldLeadBe_32 : decode cX4_couldLeadBe 32 = .ok (.istore 6, 2) := by decide +kernel
theorem dX4_couldLeadBe_34 : decode cX4_couldLeadBe 34 = .ok (.aload 5, 2) := by decide +kernel
theorem dX4_couldLeadBe_36 : decode cX4_couldLeadBe 36 = .ok (.ifnull 65, 3) := by decide +kernel
theorem dX4_couldLeadBe_39 : decode cX4_couldLeadBe 39 = .ok (.iload 6, 2) := by decide +kernel
theorem dX4_couldLeadBe_41 : decode cX4_couldLeadBe 41 = .ok (.invokestatic 123, 3) := by decide +kernel
theorem dX4_couldLeadBe_44 : decode cX4_couldLeadBe 44 = .ok (.ifCond .eq 57, 3) := by decide +kernel
theorem dX4_couldLeadBe_47 : decode cX4_couldLeadBe 47 = .ok (.aload_n 0, 1) := by decide +kernel
theorem dX4_couldLeadBe_48 : decode cX4_couldLeadBe 48 = .ok (.getfield 21, 3) := by decide +kernel
theorem dX4_couldLeadBe_51 : decode cX4_couldLeadBe 51 = .ok (.iload 6, 2) := by decide +kernel
theorem dX4_couldLeadBe_53 : decode cX4_couldLeadBe 53 = .ok (.aaload, 1) := by decide +kernel
theorem dX4_couldLeadBe_54 : decode cX4_couldLeadBe 54 = .ok (.aload_n 3, 1) := by decide +kernel
theorem dX4_couldLeadBe_55 : decode cX4_couldLeadBe 55 = .ok (.iload 4, 2) := by decide +kernel
theorem dX4_couldLeadBe_57 : decode cX4_couldLeadBe 57 = .ok (.iload 6, 2) := by decide +kernel
theorem dX4_couldLeadBe_59 : decode cX4_couldLeadBe 59 = .ok (.invokevirtual 154, 3) := by decide +kernel
theorem dX4_couldLeadBe_62 : decode cX4_couldLeadBe 62 = .ok (.invokevirtual 157, 3) := by decide +kernel
theorem dX4_couldLeadBe_65 : decode cX4_couldLeadBe 65 = .ok (.istore 7, 2) := by decide +kernel
theorem dX4_couldLeadBe_67 : decode cX4_couldLeadBe 67 = .ok (.aload_n 0, 1) := by decide +kernel
theorem dX4_couldLeadBe_68 : decode cX4_couldLeadBe 68 = .ok (.iload 6, 2) := by decide +kernel
theorem dX4_couldLeadBe_70 : decode cX4_couldLeadBe 70 = .ok (.iload_n 1, 1) := by decide +kernel
theorem dX4_couldLeadBe_71 : decode cX4_couldLeadBe 71 = .ok (.invokevirtual 126, 3) := by decide +kernel
theorem dX4_couldLeadBe_74 : decode cX4_couldLeadBe 74 = .ok (.ifCond .ne 25, 3) := by decide +kernel
theorem dX4_couldLeadBe_77 : decode cX4_couldLeadBe 77 = .ok (.aload_n 0, 1) := by decide +kernel
theorem dX4_couldLeadBe_78 : decode cX4_couldLeadBe 78 = .ok (.aload_n 0, 1) := by decide +kernel
theorem dX4_couldLeadBe_79 : decode cX4_couldLeadBe 79 = .ok (.getfield 21, 3) := by decide +kernel
theorem dX4_couldLeadBe_82 : decode cX4_couldLeadBe 82 = .ok (.iload 6, 2) := by decide +kernel
theorem dX4_couldLeadBe_84 : decode cX4_couldLeadBe 84 = .ok (.aaload, 1) := by decide +kernel
theorem dX4_couldLeadBe_85 : decode cX4_couldLeadBe 85 = .ok (.iload 7, 2) := by decide +kernel
theorem dX4_couldLeadBe_87 : decode cX4_couldLeadBe 87 = .ok (.invokevirtual 78, 3) := by decide +kernel
theorem dX4_couldLeadBe_90 : decode cX4_couldLeadBe 90 = .ok (.aload 5, 2) := by decide +kernel
theorem dX4_couldLeadBe_92 : decode cX4_couldLeadBe 92 = .ok (.invokevirtual 134, 3) := by decide +kernel
theorem dX4_couldLeadBe_95 : decode cX4_couldLeadBe 95 = .ok (.fcmp .g, 1) := by decide +kernel
theorem dX4_couldLeadBe_96 : decode cX4_couldLeadBe 96 = .ok (.ifCond .ge 5, 3) := by decide +kernel
theorem dX4_couldLeadBe_99 : decode cX4_couldLeadBe 99 = .ok (.iconst 0, 1) := by decide +kernel
theorem dX4_couldLeadBe_100 : decode cX4_couldLeadBe 100 = .ok (.ireturn, 1) := by decide +kernel
theorem dX4_couldLeadBe_101 : decode cX4_couldLeadBe 101 = .ok (.iinc 4 1, 3) := by decide +kernel
theorem dX4_couldLeadBe_104 : decode cX4_couldLeadBe 104 = .ok (.goto (-94), 3) := by decide +kernel
theorem dX4_couldLeadBe_107 : decode cX4_couldLeadBe 107 = .ok (.iconst 1, 1) := by decide +kernel
theorem dX4_couldLeadBe_108 : decode cX4_couldLeadBe 108 = .ok (.ireturn, 1) := by decide +kernel
theorem dX4_letDaysGoBy_0 : decode cX4_letDaysGoBy 0 = .ok (.iconst 0, 1) := by decide +kernel
theorem dX4_letDaysGoBy_1 : decode cX4_letDaysGoBy 1 = .ok (.istore_n 2, 1) := by decide +kernel
theorem dX4_letDaysGoBy_2 : decode cX4_letDaysGoBy 2 = .ok (.iload_n 2, 1) := by decide +kernel
theorem dX4_letDaysGoBy_3 : decode cX4_letDaysGoBy 3 = .ok (.iload_n 1, 1) := by decide +kernel
theorem dX4_letDaysGoBy_4 : decode cX4_letDaysGoBy 4 = .ok (.if_icmp .ge 48, 3) := by decide +kernel
theorem dX4_letDaysGoBy_7 : decode cX4_letDaysGoBy 7 = .ok (.iconst 0, 1) := by decide +kernel
theorem dX4_letDaysGoBy_8 : decode cX4_letDaysGoBy 8 = .ok (.istore_n 3, 1) := by decide +kernel
theorem dX4_letDaysGoBy_9 : decode cX4_letDaysGoBy 9 = .ok (.iload_n 3, 1) := by decide +kernel
theorem dX4_letDaysGoBy_10 : decode cX4_letDaysGoBy 10 = .ok (.bipush 12, 2) := by decide +kernel
theorem dX4_letDaysGoBy_12 : decode cX4_letDaysGoBy 12 = .ok (.if_icmp .ge 24, 3) := by decide +kernel
theorem dX4_letDaysGoBy_15 : decode cX4_letDaysGoBy 15 = .ok (.aload_n 0, 1) := by decide +kernel
theorem dX4_letDaysGoBy_16 : decode cX4_letDaysGoBy 16 = .ok (.getfield 21, 3) := by decide +kernel
theorem dX4_letDaysGoBy_19 : decode cX4_letDaysGoBy 19 = .ok (.iload_n 3, 1) := by decide +kernel
theorem dX4_letDaysGoBy_20 : decode cX4_letDaysGoBy 20 = .ok (.aaload, 1) := by decide +kernel
theorem dX4_letDaysGoBy_21 : decode cX4_letDaysGoBy 21 = .ok (.aload_n 0, 1) := by decide +kernel
theorem dX4_letDaysGoBy_22 : decode cX4_letDaysGoBy 22 = .ok (.getfield 9, 3) := by decide +kernel
theorem dX4_letDaysGoBy_25 : decode cX4_letDaysGoBy 25 = .ok (.iconst 0, 1) := by decide +kernel
theorem dX4_letDaysGoBy_26 : decode cX4_letDaysGoBy 26 = .ok (.iaload, 1) := by decide +kernel
theorem dX4_letDaysGoBy_27 : decode cX4_letDaysGoBy 27 = .ok (.invokevirtual 160, 3) := by decide +kernel
theorem dX4_letDaysGoBy_30 : decode cX4_letDaysGoBy 30 = .ok (.iinc 3 1, 3) := by decide +kernel
theorem dX4_letDaysGoBy_33 : decode cX4_letDaysGoBy 33 = .ok (.goto (-24), 3) := by decide +kernel
theorem dX4_letDaysGoBy_36 : decode cX4_letDaysGoBy 36 = .ok (.aload_n 0, 1) := by decide +kernel
theorem dX4_letDaysGoBy_37 : decode cX4_letDaysGoBy 37 = .ok (.dup, 1) := by decide +kernel
theorem dX4_letDaysGoBy_38 : decode cX4_letDaysGoBy 38 = .ok (.getfield 15, 3) := by decide +kernel
theorem dX4_letDaysGoBy_41 : decode cX4_letDaysGoBy 41 = .ok (.iconst 1, 1) := by decide +kernel
theorem dX4_letDaysGoBy_42 : decode cX4_letDaysGoBy 42 = .ok (.iadd, 1) := by decide +kernel
theorem dX4_letDaysGoBy_43 : decode cX4_letDaysGoBy 43 = .ok (.putfield 15, 3) := by decide +kernel
theorem dX4_letDaysGoBy_46 : decode cX4_letDaysGoBy 46 = .ok (.iinc 2 1, 3) := by decide +kernel
theorem dX4_letDaysGoBy_49 : decode cX4_letDaysGoBy 49 = .ok (.goto (-47), 3) := by decide +kernel
theorem dX4_letDaysGoBy_52 : decode cX4_letDaysGoBy 52 = .ok (.return_, 1) := by decide +kernel
theorem dX4_countGoodDrills_0 : decode cX4_countGoodDrills 0 = .ok (.iconst 0, 1) := by decide +kernel
theorem dX4_countGoodDrills_1 : decode cX4_countGoodDrills 1 = .ok (.istore_n 1, 1) := by decide +kernel
theorem dX4_countGoodDrills_2 : decode cX4_countGoodDrills 2 = .ok (.iconst 0, 1) := by decide +kernel
theorem dX4_countGoodDrills_3 : decode cX4_countGoodDrills 3 = .ok (.istore_n 2, 1) := by decide +kernel
theorem dX4_countGoodDrills_4 : decode cX4_countGoodDrills 4 = .ok (.iload_n 2, 1) := by decide +kernel
theorem dX4_countGoodDrills_5 : decode cX4_countGoodDrills 5 = .ok (.bipush 12, 2) := by decide +kernel
theorem dX4_countGoodDrills_7 : decode cX4_countGoodDrills 7 = .ok (.if_icmp .ge 25, 3) := by decide +kernel
theorem dX4_countGoodDrills_10 : decode cX4_countGoodDrills 10 = .ok (.aload_n 0, 1) := by decide +kernel
theorem dX4_countGoodDrills_11 : decode cX4_countGoodDrills 11 = .ok (.aload_n 0, 1) := by decide +kernel
theorem dX4_countGoodDrills_12 : decode cX4_countGoodDrills 12 = .ok (.getfield 21, 3) := by decide +kernel
theorem dX4_countGoodDrills_15 : decode cX4_countGoodDrills 15 = .ok (.iload_n 2, 1) := by decide +kernel
theorem dX4_countGoodDrills_16 : decode cX4_countGoodDrills 16 = .ok (.aaload, 1) := by decide +kernel
theorem dX4_countGoodDrills_17 : decode cX4_countGoodDrills 17 = .ok (.invokevirtual 82, 3) := by decide +kernel
theorem dX4_countGoodDrills_20 : decode cX4_countGoodDrills 20 = .ok (.ifCond .eq 6, 3) := by decide +kernel
theorem dX4_countGoodDrills_23 : decode cX4_countGoodDrills 23 = .ok (.iinc 1 1, 3) := by decide +kernel
theorem dX4_countGoodDrills_26 : decode cX4_countGoodDrills 26 = .ok (.iinc 2 1, 3) := by decide +kernel
theorem dX4_countGoodDrills_29 : decode cX4_countGoodDrills 29 = .ok (.goto (-25), 3) := by decide +kernel
theorem dX4_countGoodDrills_32 : decode cX4_countGoodDrills 32 = .ok (.iload_n 1, 1) := by decide +kernel
theorem dX4_countGoodDrills_33 : decode cX4_countGoodDrills 33 = .ok (.ireturn, 1) := by decide +kernel
theorem dX4_countCracks_0 : decode cX4_countCracks 0 = .ok (.iconst 0, 1) := by decide +kernel
theorem dX4_countCracks_1 : decode cX4_countCracks 1 = .ok (.istore_n 1, 1) := by decide +kernel
theorem dX4_countCracks_2 : decode cX4_countCracks 2 = .ok (.iconst 0, 1) := by decide +kernel
theorem dX4_countCracks_3 : decode cX4_countCracks 3 = .ok (.istore_n 2, 1) := by decide +kernel
theorem dX4_countCracks_4 : decode cX4_countCracks 4 = .ok (.iload_n 2, 1) := by decide +kernel
theorem dX4_countCracks_5 : decode cX4_countCracks 5 = .ok (.bipush 12, 2) := by decide +kernel
theorem dX4_countCracks_7 : decode cX4_countCracks 7 = .ok (.if_icmp .ge 21, 3) := by decide +kernel
theorem dX4_countCracks_10 : decode cX4_countCracks 10 = .ok (.iload_n 1, 1) := by decide +kernel
theorem dX4_countCracks_11 : decode cX4_countCracks 11 = .ok (.aload_n 0, 1) := by decide +kernel
theorem dX4_countCracks_12 : decode cX4_countCracks 12 = .ok (.getfield 21, 3) := by decide +kernel
theorem dX4_countCracks_15 : decode cX4_countCracks 15 = .ok (.iload_n 2, 1) := by decide +kernel
theorem dX4_countCracks_16 : decode cX4_countCracks 16 = .ok (.aaload, 1) := by decide +kernel
theorem dX4_countCracks_17 : decode cX4_countCracks 17 = .ok (.getfield 75, 3) := by decide +kernel
theorem dX4_countCracks_20 : decode cX4_countCracks 20 = .ok (.iadd, 1) := by decide +kernel
theorem dX4_countCracks_21 : decode cX4_countCracks 21 = .ok (.istore_n 1, 1) := by decide +kernel
theorem dX4_countCracks_22 : decode cX4_countCracks 22 = .ok (.iinc 2 1, 3) := by decide +kernel
theorem dX4_countCracks_25 : decode cX4_countCracks 25 = .ok (.goto (-21), 3) := by decide +kernel
theorem dX4_countCracks_28 : decode cX4_countCracks 28 = .ok (.iload_n 1, 1) := by decide +kernel
theorem dX4_countCracks_29 : decode cX4_countCracks 29 = .ok (.ireturn, 1) := by decide +kernel
theorem dX4_countInRows_0 : decode cX4_countInRows 0 = .ok (.iconst 0, 1) := by decide +kernel
theorem dX4_countInRows_1 : decode cX4_countInRows 1 = .ok (.istore_n 1, 1) := by decide +kernel
theorem dX4_countInRows_2 : decode cX4_countInRows 2 = .ok (.iconst 0, 1) := by decide +kernel
theorem dX4_countInRows_3 : decode cX4_countInRows 3 = .ok (.istore_n 2, 1) := by decide +kernel
theorem dX4_countInRows_4 : decode cX4_countInRows 4 = .ok (.iload_n 2, 1) := by decide +kernel
theorem dX4_countInRows_5 : decode cX4_countInRows 5 = .ok (.aload_n 0, 1) := by decide +kernel
theorem dX4_countInRows_6 : decode cX4_countInRows 6 = .ok (.getfield 27, 3) := by decide +kernel
theorem dX4_countInRows_9 : decode cX4_countInRows 9 = .ok (.arraylength, 1) := by decide +kernel
theorem dX4_countInRows_10 : decode cX4_countInRows 10 = .ok (.if_icmp .ge 21, 3) := by decide +kernel
theorem dX4_countInRows_13 : decode cX4_countInRows 13 = .ok (.aload_n 0, 1) := by decide +kernel
theorem dX4_countInRows_14 : decode cX4_countInRows 14 = .ok (.getfield 27, 3) := by decide +kernel
theorem dX4_countInRows_17 : decode cX4_countInRows 17 = .ok (.iload_n 2, 1) := by decide +kernel
theorem dX4_countInRows_18 : decode cX4_countInRows 18 = .ok (.aaload, 1) := by decide +kernel
theorem dX4_countInRows_19 : decode cX4_countInRows 19 = .ok (.ifnull 6, 3) := by decide +kernel
theorem dX4_countInRows_22 : decode cX4_countInRows 22 = .ok (.iinc 1 1, 3) := by decide +kernel
theorem dX4_countInRows_25 : decode cX4_countInRows 25 = .ok (.iinc 2 1, 3) := by decide +kernel
theorem dX4_countInRows_28 : decode cX4_countInRows 28 = .ok (.goto (-24), 3) := by decide +kernel
theorem dX4_countInRows_31 : decode cX4_countInRows 31 = .ok (.iload_n 1, 1) := by decide +kernel
theorem dX4_countInRows_32 : decode cX4_countInRows 32 = .ok (.ireturn, 1) := by decide +kernel
theorem dX4_countStarted_0 : decode cX4_countStarted 0 = .ok (.iconst 0, 1) := by decide +kernel
theorem dX4_countStarted_1 : decode cX4_countStarted 1 = .ok (.istore_n 1, 1) := by decide +kernel
theorem dX4_countStarted_2 : decode cX4_countStarted 2 = .ok (.iconst 0, 1) := by decide +kernel
theorem dX4_countStarted_3 : decode cX4_countStarted 3 = .ok (.istore_n 2, 1) := by decide +kernel
theorem dX4_countStarted_4 : decode cX4_countStarted 4 = .ok (.iload_n 2, 1) := by decide +kernel
theorem dX4_countStarted_5 : decode cX4_countStarted 5 = .ok (.aload_n 0, 1) := by decide +kernel
theorem dX4_countStarted_6 : decode cX4_countStarted 6 = .ok (.getfield 37, 3) := by decide +kernel
theorem dX4_countStarted_9 : decode cX4_countStarted 9 = .ok (.if_icmp .ge 24, 3) := by decide +kernel
theorem dX4_countStarted_12 : decode cX4_countStarted 12 = .ok (.aload_n 0, 1) := by decide +kernel
theorem dX4_countStarted_13 : decode cX4_countStarted 13 = .ok (.getfield 33, 3) := by decide +kernel
theorem dX4_countStarted_16 : decode cX4_countStarted 16 = .ok (.iload_n 2, 1) := by decide +kernel
theorem dX4_countStarted_17 : decode cX4_countStarted 17 = .ok (.aaload, 1) := by decide +kernel
theorem dX4_countStarted_18 : decode cX4_countStarted 18 = .ok (.invokevirtual 100, 3) := by decide +kernel
theorem dX4_countStarted_21 : decode cX4_countStarted 21 = .ok (.ifCond .eq 6, 3) := by decide +kernel
theorem dX4_countStarted_24 : decode cX4_countStarted 24 = .ok (.iinc 1 1, 3) := by decide +kernel
theorem dX4_countStarted_27 : decode cX4_countStarted 27 = .ok (.iinc 2 1, 3) := by decide +kernel
theorem dX4_countStarted_30 : decode cX4_countStarted 30 = .ok (.goto (-26), 3) := by decide +kernel
theorem dX4_countStarted_33 : decode cX4_countStarted 33 = .ok (.iload_n 1, 1) := by decide +kernel
theorem dX4_countStarted_34 : decode cX4_countStarted 34 = .ok (.ireturn, 1) := by decide +kernel
theorem dX4_countDone_0 : decode cX4_countDone 0 = .ok (.iconst 0, 1) := by decide +kernel
theorem dX4_countDone_1 : decode cX4_countDone 1 = .ok (.istore_n 1, 1) := by decide +kernel
theorem dX4_countDone_2 : decode cX4_countDone 2 = .ok (.iconst 0, 1) := by decide +kernel
theorem dX4_countDone_3 : decode cX4_countDone 3 = .ok (.istore_n 2, 1) := by decide +kernel
theorem dX4_countDone_4 : decode cX4_countDone 4 = .ok (.iload_n 2, 1) := by decide +kernel
theorem dX4_countDone_5 : decode cX4_countDone 5 = .ok (.aload_n 0, 1) := by decide +kernel
theorem dX4_countDone_6 : decode cX4_countDone 6 = .ok (.getfield 37, 3) := by decide +kernel
theorem dX4_countDone_9 : decode cX4_countDone 9 = .ok (.if_icmp .ge 24, 3) := by decide +kernel
theorem dX4_countDone_12 : decode cX4_countDone 12 = .ok (.aload_n 0, 1) := by decide +kernel
theorem dX4_countDone_13 : decode cX4_countDone 13 = .ok (.getfield 33, 3) := by decide +kernel
theorem dX4_countDone_16 : decode cX4_countDone 16 = .ok (.iload_n 2, 1) := by decide +kernel
theorem dX4_countDone_17 : decode cX4_countDone 17 = .ok (.aaload, 1) := by decide +kernel
theorem dX4_countDone_18 : decode cX4_countDone 18 = .ok (.invokevirtual 114, 3) := by decide +kernel
theorem dX4_countDone_21 : decode cX4_countDone 21 = .ok (.ifCond .eq 6, 3) := by decide +kernel
theorem dX4_countDone_24 : decode cX4_countDone 24 = .ok (.iinc 1 1, 3) := by decide +kernel
theorem dX4_countDone_27 : decode cX4_countDone 27 = .ok (.iinc 2 1, 3) := by decide +kernel
theorem dX4_countDone_30 : decode cX4_countDone 30 = .ok (.goto (-26), 3) := by decide +kernel
theorem dX4_countDone_33 : decode cX4_countDone 33 = .ok (.iload_n 1, 1) := by decide +kernel
theorem dX4_countDone_34 : decode cX4_countDone 34 = .ok (.ireturn, 1) := by decide +kernel
theorem dX4_countOnRoad_0 : decode cX4_countOnRoad 0 = .ok (.iconst 0, 1) := by decide +kernel
theorem dX4_countOnRoad_1 : decode cX4_countOnRoad 1 = .ok (.istore_n 1, 1) := by decide +kernel
theorem dX4_countOnRoad_2 : decode cX4_countOnRoad 2 = .ok (.iconst 0, 1) := by decide +kernel
theorem dX4_countOnRoad_3 : decode cX4_countOnRoad 3 = .ok (.istore_n 2, 1) := by decide +kernel
theorem dX4_countOnRoad_4 : decode cX4_countOnRoad 4 = .ok (.iload_n 2, 1) := by decide +kernel
theorem dX4_countOnRoad_5 : decode cX4_countOnRoad 5 = .ok (.aload_n 0, 1) := by decide +kernel
theorem dX4_countOnRoad_6 : decode cX4_countOnRoad 6 = .ok (.getfield 37, 3) := by decide +kernel
theorem dX4_countOnRoad_9 : decode cX4_countOnRoad 9 = .ok (.if_icmp .ge 21, 3) := by decide +kernel
theorem dX4_countOnRoad_12 : decode cX4_countOnRoad 12 = .ok (.iload_n 1, 1) := by decide +kernel
theorem dX4_countOnRoad_13 : decode cX4_countOnRoad 13 = .ok (.aload_n 0, 1) := by decide +kernel
theorem dX4_countOnRoad_14 : decode cX4_countOnRoad 14 = .ok (.getfield 33, 3) := by decide +kernel
theorem dX4_countOnRoad_17 : decode cX4_countOnRoad 17 = .ok (.iload_n 2, 1) := by decide +kernel
theorem dX4_countOnRoad_18 : decode cX4_countOnRoad 18 = .ok (.aaload, 1) := by decide +kernel
theorem dX4_countOnRoad_19 : decode cX4_countOnRoad 19 = .ok (.invokevirtual 164, 3) := by decide +kernel
theorem dX4_countOnRoad_22 : decode cX4_countOnRoad 22 = .ok (.iadd, 1) := by decide +kernel
theorem dX4_countOnRoad_23 : decode cX4_countOnRoad 23 = .ok (.istore_n 1, 1) := by decide +kernel
theorem dX4_countOnRoad_24 : decode cX4_countOnRoad 24 = .ok (.iinc 2 1, 3) := by decide +kernel
theorem dX4_countOnRoad_27 : decode cX4_countOnRoad 27 = .ok (.goto (-23), 3) := by decide +kernel
theorem dX4_countOnRoad_30 : decode cX4_countOnRoad 30 = .ok (.iload_n 1, 1) := by decide +kernel
theorem dX4_countOnRoad_31 : decode cX4_countOnRoad 31 = .ok (.ireturn, 1) := by decide +kernel
theorem dX4_countArrived_0 : decode cX4_countArrived 0 = .ok (.iconst 0, 1) := by decide +kernel
theorem dX4_countArrived_1 : decode cX4_countArrived 1 = .ok (.istore_n 1, 1) := by decide +kernel
theorem dX4_countArrived_2 : decode cX4_countArrived 2 = .ok (.iconst 0, 1) := by decide +kernel
theorem dX4_countArrived_3 : decode cX4_countArrived 3 = .ok (.istore_n 2, 1) := by decide +kernel
theorem dX4_countArrived_4 : decode cX4_countArrived 4 = .ok (.iload_n 2, 1) := by decide +kernel
theorem dX4_countArrived_5 : decode cX4_countArrived 5 = .ok (.aload_n 0, 1) := by decide +kernel
theorem dX4_countArrived_6 : decode cX4_countArrived 6 = .ok (.getfield 37, 3) := by decide +kernel
theorem dX4_countArrived_9 : decode cX4_countArrived 9 = .ok (.if_icmp .ge 21, 3) := by decide +kernel
theorem dX4_countArrived_12 : decode cX4_countArrived 12 = .ok (.iload_n 1, 1) := by decide +kernel
theorem dX4_countArrived_13 : decode cX4_countArrived 13 = .ok (.aload_n 0, 1) := by decide +kernel
theorem dX4_countArrived_14 : decode cX4_countArrived 14 = .ok (.getfield 33, 3) := by decide +kernel
theorem dX4_countArrived_17 : decode cX4_countArrived 17 = .ok (.iload_n 2, 1) := by decide +kernel
theorem dX4_countArrived_18 : decode cX4_countArrived 18 = .ok (.aaload, 1) := by decide +kernel
theorem dX4_countArrived_19 : decode cX4_countArrived 19 = .ok (.invokevirtual 168, 3) := by decide +kernel
theorem dX4_countArrived_22 : decode cX4_countArrived 22 = .ok (.iadd, 1) := by decide +kernel
theorem dX4_countArrived_23 : decode cX4_countArrived 23 = .ok (.istore_n 1, 1) := by decide +kernel
theorem dX4_countArrived_24 : decode cX4_countArrived 24 = .ok (.iinc 2 1, 3) := by decide +kernel
theorem dX4_countArrived_27 : decode cX4_countArrived 27 = .ok (.goto (-23), 3) := by decide +kernel
theorem dX4_countArrived_30 : decode cX4_countArrived 30 = .ok (.iload_n 1, 1) := by decide +kernel
theorem dX4_countArrived_31 : decode cX4_countArrived 31 = .ok (.ireturn, 1) := by decide +kernel
theorem dX4_tonnesInRows_0 : decode cX4_tonnesInRows 0 = .ok (.iconst 0, 1) := by decide +kernel
theorem dX4_tonnesInRows_1 : decode cX4_tonnesInRows 1 = .ok (.istore_n 1, 1) := by decide +kernel
theorem dX4_tonnesInRows_2 : decode cX4_tonnesInRows 2 = .ok (.iconst 0, 1) := by decide +kernel
theorem dX4_tonnesInRows_3 : decode cX4_tonnesInRows 3 = .ok (.istore_n 2, 1) := by decide +kernel
theorem dX4_tonnesInRows_4 : decode cX4_tonnesInRows 4 = .ok (.iload_n 2, 1) := by decide +kernel
theorem dX4_tonnesInRows_5 : decode cX4_tonnesInRows 5 = .ok (.aload_n 0, 1) := by decide +kernel
theorem dX4_tonnesInRows_6 : decode cX4_tonnesInRows 6 = .ok (.getfield 27, 3) := by decide +kernel
theorem dX4_tonnesInRows_9 : decode cX4_tonnesInRows 9 = .ok (.arraylength, 1) := by decide +kernel
theorem dX4_tonnesInRows_10 : decode cX4_tonnesInRows 10 = .ok (.if_icmp .ge 27, 3) := by decide +kernel
theorem dX4_tonnesInRows_13 : decode cX4_tonnesInRows 13 = .ok (.aload_n 0, 1) := by decide +kernel
theorem dX4_tonnesInRows_14 : decode cX4_tonnesInRows 14 = .ok (.getfield 27, 3) := by decide +kernel
theorem dX4_tonnesInRows_17 : decode cX4_tonnesInRows 17 = .ok (.iload_n 2, 1) := by decide +kernel
theorem dX4_tonnesInRows_18 : decode cX4_tonnesInRows 18 = .ok (.aaload, 1) := by decide +kernel
theorem dX4_tonnesInRows_19 : decode cX4_tonnesInRows 19 = .ok (.astore_n 3, 1) := by decide +kernel
theorem dX4_tonnesInRows_20 : decode cX4_tonnesInRows 20 = .ok (.aload_n 3, 1) := by decide +kernel
theorem dX4_tonnesInRows_21 : decode cX4_tonnesInRows 21 = .ok (.ifnull 10, 3) := by decide +kernel
theorem dX4_tonnesInRows_24 : decode cX4_tonnesInRows 24 = .ok (.iload_n 1, 1) := by decide +kernel
theorem dX4_tonnesInRows_25 : decode cX4_tonnesInRows 25 = .ok (.aload_n 3, 1) := by decide +kernel
theorem dX4_tonnesInRows_26 : decode cX4_tonnesInRows 26 = .ok (.getfield 145, 3) := by decide +kernel
theorem dX4_tonnesInRows_29 : decode cX4_tonnesInRows 29 = .ok (.iadd, 1) := by decide +kernel
theorem dX4_tonnesInRows_30 : decode cX4_tonnesInRows 30 = .ok (.istore_n 1, 1) := by decide +kernel
theorem dX4_tonnesInRows_31 : decode cX4_tonnesInRows 31 = .ok (.iinc 2 1, 3) := by decide +kernel
theorem dX4_tonnesInRows_34 : decode cX4_tonnesInRows 34 = .ok (.goto (-30), 3) := by decide +kernel
theorem dX4_tonnesInRows_37 : decode cX4_tonnesInRows 37 = .ok (.iload_n 1, 1) := by decide +kernel
theorem dX4_tonnesInRows_38 : decode cX4_tonnesInRows 38 = .ok (.ireturn, 1) := by decide +kernel
theorem dX4_tonnesUnderWay_0 : decode cX4_tonnesUnderWay 0 = .ok (.iconst 0, 1) := by decide +kernel
theorem dX4_tonnesUnderWay_1 : decode cX4_tonnesUnderWay 1 = .ok (.istore_n 1, 1) := by decide +kernel
theorem dX4_tonnesUnderWay_2 : decode cX4_tonnesUnderWay 2 = .ok (.iconst 0, 1) := by decide +kernel
theorem dX4_tonnesUnderWay_3 : decode cX4_tonnesUnderWay 3 = .ok (.istore_n 2, 1) := by decide +kernel
theorem dX4_tonnesUnderWay_4 : decode cX4_tonnesUnderWay 4 = .ok (.iload_n 2, 1) := by decide +kernel
theorem dX4_tonnesUnderWay_5 : decode cX4_tonnesUnderWay 5 = .ok (.aload_n 0, 1) := by decide +kernel
theorem dX4_tonnesUnderWay_6 : decode cX4_tonnesUnderWay 6 = .ok (.getfield 37, 3) := by decide +kernel
theorem dX4_tonnesUnderWay_9 : decode cX4_tonnesUnderWay 9 = .ok (.if_icmp .ge 21, 3) := by decide +kernel
theorem dX4_tonnesUnderWay_12 : decode cX4_tonnesUnderWay 12 = .ok (.iload_n 1, 1) := by decide +kernel
theorem dX4_tonnesUnderWay_13 : decode cX4_tonnesUnderWay 13 = .ok (.aload_n 0, 1) := by decide +kernel
theorem dX4_tonnesUnderWay_14 : decode cX4_tonnesUnderWay 14 = .ok (.getfield 33, 3) := by decide +kernel
theorem dX4_tonnesUnderWay_17 : decode cX4_tonnesUnderWay 17 = .ok (.iload_n 2, 1) := by decide +kernel
theorem dX4_tonnesUnderWay_18 : decode cX4_tonnesUnderWay 18 = .ok (.aaload, 1) := by decide +kernel
theorem dX4_tonnesUnderWay_19 : decode cX4_tonnesUnderWay 19 = .ok (.invokevirtual 171, 3) := by decide +kernel
theorem dX4_tonnesUnderWay_22 : decode cX4_tonnesUnderWay 22 = .ok (.iadd, 1) := by decide +kernel
theorem dX4_tonnesUnderWay_23 : decode cX4_tonnesUnderWay 23 = .ok (.istore_n 1, 1) := by decide +kernel
theorem dX4_tonnesUnderWay_24 : decode cX4_tonnesUnderWay 24 = .ok (.iinc 2 1, 3) := by decide +kernel
theorem dX4_tonnesUnderWay_27 : decode cX4_tonnesUnderWay 27 = .ok (.goto (-23), 3) := by decide +kernel
theorem dX4_tonnesUnderWay_30 : decode cX4_tonnesUnderWay 30 = .ok (.iload_n 1, 1) := by decide +kernel
theorem dX4_tonnesUnderWay_31 : decode cX4_tonnesUnderWay 31 = .ok (.ireturn, 1) := by decide +kernel
theorem dX4_hasOneTruckAMile_0 : decode cX4_hasOneTruckAMile 0 = .ok (.iconst 0, 1) := by decide +kernel
theorem dX4_hasOneTruckAMile_1 : decode cX4_hasOneTruckAMile 1 = .ok (.istore_n 1, 1) := by decide +kernel
theorem dX4_hasOneTruckAMile_2 : decode cX4_hasOneTruckAMile 2 = .ok (.iconst 0, 1) := by decide +kernel
theorem dX4_hasOneTruckAMile_3 : decode cX4_hasOneTruckAMile 3 = .ok (.istore_n 2, 1) := by decide +kernel
theorem dX4_hasOneTruckAMile_4 : decode cX4_hasOneTruckAMile 4 = .ok (.iload_n 2, 1) := by decide +kernel
theorem dX4_hasOneTruckAMile_5 : decode cX4_hasOneTruckAMile 5 = .ok (.aload_n 0, 1) := by decide +kernel
theorem dX4_hasOneTruckAMile_6 : decode cX4_hasOneTruckAMile 6 = .ok (.getfield 37, 3) := by decide +kernel
theorem dX4_hasOneTruckAMile_9 : decode cX4_hasOneTruckAMile 9 = .ok (.if_icmp .ge 68, 3) := by decide +kernel
theorem dX4_hasOneTruckAMile_12 : decode cX4_hasOneTruckAMile 12 = .ok (.iconst 0, 1) := by decide +kernel
theorem dX4_hasOneTruckAMile_13 : decode cX4_hasOneTruckAMile 13 = .ok (.istore_n 3, 1) := by decide +kernel
theorem dX4_hasOneTruckAMile_14 : decode cX4_hasOneTruckAMile 14 = .ok (.iload_n 3, 1) := by decide +kernel
theorem dX4_hasOneTruckAMile_15 : decode cX4_hasOneTruckAMile 15 = .ok (.aload_n 0, 1) := by decide +kernel
theorem dX4_hasOneTruckAMile_16 : decode cX4_hasOneTruckAMile 16 = .ok (.getfield 33, 3) := by decide +kernel
theorem dX4_hasOneTruckAMile_19 : decode cX4_hasOneTruckAMile 19 = .ok (.iload_n 2, 1) := by decide +kernel
theorem dX4_hasOneTruckAMile_20 : decode cX4_hasOneTruckAMile 20 = .ok (.aaload, 1) := by decide +kernel
theorem dX4_hasOneTruckAMile_21 : decode cX4_hasOneTruckAMile 21 = .ok (.getfield 108, 3) := by decide +kernel
theorem dX4_hasOneTruckAMile_24 : decode cX4_hasOneTruckAMile 24 = .ok (.if_icmp .ge 47, 3) := by decide +kernel
theorem dX4_hasOneTruckAMile_27 : decode cX4_hasOneTruckAMile 27 = .ok (.aload_n 0, 1) := by decide +kernel
theorem dX4_hasOneTruckAMile_28 : decode cX4_hasOneTruckAMile 28 = .ok (.getfield 33, 3) := by decide +kernel
theorem dX4_hasOneTruckAMile_31 : decode cX4_hasOneTruckAMile 31 = .ok (.iload_n 2, 1) := by decide +kernel
theorem dX4_hasOneTruckAMile_32 : decode cX4_hasOneTruckAMile 32 = .ok (.aaload, 1) := by decide +kernel
theorem dX4_hasOneTruckAMile_33 : decode cX4_hasOneTruckAMile 33 = .ok (.iload_n 3, 1) := by decide +kernel
theorem dX4_hasOneTruckAMile_34 : decode cX4_hasOneTruckAMile 34 = .ok (.invokevirtual 138, 3) := by decide +kernel
theorem dX4_hasOneTruckAMile_37 : decode cX4_hasOneTruckAMile 37 = .ok (.istore 4, 2) := by decide +kernel
theorem dX4_hasOneTruckAMile_39 : decode cX4_hasOneTruckAMile 39 = .ok (.iload 4, 2) := by decide +kernel
theorem dX4_hasOneTruckAMile_41 : decode cX4_hasOneTruckAMile 41 = .ok (.invokestatic 123, 3) := by decide +kernel
theorem dX4_hasOneTruckAMile_44 : decode cX4_hasOneTruckAMile 44 = .ok (.ifCond .eq 21, 3) := by decide +kernel
theorem dX4_hasOneTruckAMile_47 : decode cX4_hasOneTruckAMile 47 = .ok (.iload_n 1, 1) := by decide +kernel
theorem dX4_hasOneTruckAMile_48 : decode cX4_hasOneTruckAMile 48 = .ok (.iconst 1, 1) := by decide +kernel
theorem dX4_hasOneTruckAMile_49 : decode cX4_hasOneTruckAMile 49 = .ok (.iload 4, 2) := by decide +kernel
theorem dX4_hasOneTruckAMile_51 : decode cX4_hasOneTruckAMile 51 = .ok (.ishl, 1) := by decide +kernel
theorem dX4_hasOneTruckAMile_52 : decode cX4_hasOneTruckAMile 52 = .ok (.iand, 1) := by decide +kernel
theorem dX4_hasOneTruckAMile_53 : decode cX4_hasOneTruckAMile 53 = .ok (.ifCond .eq 5, 3) := by decide +kernel
theorem dX4_hasOneTruckAMile_56 : decode cX4_hasOneTruckAMile 56 = .ok (.iconst 0, 1) := by decide +kernel
theorem dX4_hasOneTruckAMile_57 : decode cX4_hasOneTruckAMile 57 = .ok (.ireturn, 1) := by decide +kernel
theorem dX4_hasOneTruckAMile_58 : decode cX4_hasOneTruckAMile 58 = .ok (.iload_n 1, 1) := by decide +kernel
theorem dX4_hasOneTruckAMile_59 : decode cX4_hasOneTruckAMile 59 = .ok (.iconst 1, 1) := by decide +kernel
theorem dX4_hasOneTruckAMile_60 : decode cX4_hasOneTruckAMile 60 = .ok (.iload 4, 2) := by decide +kernel
theorem dX4_hasOneTruckAMile_62 : decode cX4_hasOneTruckAMile 62 = .ok (.ishl, 1) := by decide +kernel
theorem dX4_hasOneTruckAMile_63 : decode cX4_hasOneTruckAMile 63 = .ok (.ior, 1) := by decide +kernel
theorem dX4_hasOneTruckAMile_64 : decode cX4_hasOneTruckAMile 64 = .ok (.istore_n 1, 1) := by decide +kernel
theorem dX4_hasOneTruckAMile_65 : decode cX4_hasOneTruckAMile 65 = .ok (.iinc 3 1, 3) := by decide +kernel
theorem dX4_hasOneTruckAMile_68 : decode cX4_hasOneTruckAMile 68 = .ok (.goto (-54), 3) := by decide +kernel
theorem dX4_hasOneTruckAMile_71 : decode cX4_hasOneTruckAMile 71 = .ok (.iinc 2 1, 3) := by decide +kernel
theorem dX4_hasOneTruckAMile_74 : decode cX4_hasOneTruckAMile 74 = .ok (.goto (-70), 3) := by decide +kernel
theorem dX4_hasOneTruckAMile_77 : decode cX4_hasOneTruckAMile 77 = .ok (.iconst 1, 1) := by decide +kernel
theorem dX4_hasOneTruckAMile_78 : decode cX4_hasOneTruckAMile 78 = .ok (.ireturn, 1) := by decide +kernel
theorem dX4_isIceInRange_0 : decode cX4_isIceInRange 0 = .ok (.iconst 0, 1) := by decide +kernel
theorem dX4_isIceInRange_1 : decode cX4_isIceInRange 1 = .ok (.istore_n 1, 1) := by decide +kernel
theorem dX4_isIceInRange_2 : decode cX4_isIceInRange 2 = .ok (.iload_n 1, 1) := by decide +kernel
theorem dX4_isIceInRange_3 : decode cX4_isIceInRange 3 = .ok (.bipush 12, 2) := by decide +kernel
theorem dX4_isIceInRange_5 : decode cX4_isIceInRange 5 = .ok (.if_icmp .ge 40, 3) := by decide +kernel
theorem dX4_isIceInRange_8 : decode cX4_isIceInRange 8 = .ok (.aload_n 0, 1) := by decide +kernel
theorem dX4_isIceInRange_9 : decode cX4_isIceInRange 9 = .ok (.getfield 21, 3) := by decide +kernel
theorem dX4_isIceInRange_12 : decode cX4_isIceInRange 12 = .ok (.iload_n 1, 1) := by decide +kernel
theorem dX4_isIceInRange_13 : decode cX4_isIceInRange 13 = .ok (.aaload, 1) := by decide +kernel
theorem dX4_isIceInRange_14 : decode cX4_isIceInRange 14 = .ok (.getfield 65, 3) := by decide +kernel
theorem dX4_isIceInRange_17 : decode cX4_isIceInRange 17 = .ok (.fconst 0, 1) := by decide +kernel
theorem dX4_isIceInRange_18 : decode cX4_isIceInRange 18 = .ok (.fcmp .g, 1) := by decide +kernel
theorem dX4_isIceInRange_19 : decode cX4_isIceInRange 19 = .ok (.ifCond .lt 18, 3) := by decide +kernel
theorem dX4_isIceInRange_22 : decode cX4_isIceInRange 22 = .ok (.aload_n 0, 1) := by decide +kernel
theorem dX4_isIceInRange_23 : decode cX4_isIceInRange 23 = .ok (.getfield 21, 3) := by decide +kernel
theorem dX4_isIceInRange_26 : decode cX4_isIceInRange 26 = .ok (.iload_n 1, 1) := by decide +kernel
theorem dX4_isIceInRange_27 : decode cX4_isIceInRange 27 = .ok (.aaload, 1) := by decide +kernel
theorem dX4_isIceInRange_28 : decode cX4_isIceInRange 28 = .ok (.getfield 65, 3) := by decide +kernel
theorem dX4_isIceInRange_31 : decode cX4_isIceInRange 31 = .ok (.ldc 174, 2) := by decide +kernel
theorem dX4_isIceInRange_33 : decode cX4_isIceInRange 33 = .ok (.fcmp .l, 1) := by decide +kernel
theorem dX4_isIceInRange_34 : decode cX4_isIceInRange 34 = .ok (.ifCond .le 5, 3) := by decide +kernel
theorem dX4_isIceInRange_37 : decode cX4_isIceInRange 37 = .ok (.iconst 0, 1) := by decide +kernel
theorem dX4_isIceInRange_38 : decode cX4_isIceInRange 38 = .ok (.ireturn, 1) := by decide +kernel
theorem dX4_isIceInRange_39 : decode cX4_isIceInRange 39 = .ok (.iinc 1 1, 3) := by decide +kernel
theorem dX4_isIceInRange_42 : decode cX4_isIceInRange 42 = .ok (.goto (-40), 3) := by decide +kernel
theorem dX4_isIceInRange_45 : decode cX4_isIceInRange 45 = .ok (.iconst 1, 1) := by decide +kernel
theorem dX4_isIceInRange_46 : decode cX4_isIceInRange 46 = .ok (.ireturn, 1) := by decide +kernel
theorem dX5_init_0 : decode cX5_init 0 = .ok (.aload_n 0, 1) := by decide +kernel
theorem dX5_init_1 : decode cX5_init 1 = .ok (.invokespecial 1, 3) := by decide +kernel
theorem dX5_init_4 : decode cX5_init 4 = .ok (.aload_n 0, 1) := by decide +kernel
theorem dX5_init_5 : decode cX5_init 5 = .ok (.iload_n 1, 1) := by decide +kernel
theorem dX5_init_6 : decode cX5_init 6 = .ok (.putfield 7, 3) := by decide +kernel
theorem dX5_init_9 : decode cX5_init 9 = .ok (.aload_n 0, 1) := by decide +kernel
theorem dX5_init_10 : decode cX5_init 10 = .ok (.iload_n 2, 1) := by decide +kernel
theorem dX5_init_11 : decode cX5_init 11 = .ok (.putfield 13, 3) := by decide +kernel
theorem dX5_init_14 : decode cX5_init 14 = .ok (.aload_n 0, 1) := by decide +kernel
theorem dX5_init_15 : decode cX5_init 15 = .ok (.iload_n 3, 1) := by decide +kernel
theorem dX5_init_16 : decode cX5_init 16 = .ok (.putfield 16, 3) := by decide +kernel
theorem dX5_init_19 : decode cX5_init 19 = .ok (.return_, 1) := by decide +kernel
theorem dX5_burden_0 : decode cX5_burden 0 = .ok (.aload_n 0, 1) := by decide +kernel
theorem dX5_burden_1 : decode cX5_burden 1 = .ok (.getfield 7, 3) := by decide +kernel
theorem dX5_burden_4 : decode cX5_burden 4 = .ok (.ifCond .ne 11, 3) := by decide +kernel
theorem dX5_burden_7 : decode cX5_burden 7 = .ok (.aload_n 0, 1) := by decide +kernel
theorem dX5_burden_8 : decode cX5_burden 8 = .ok (.getfield 13, 3) := by decide +kernel
theorem dX5_burden_11 : decode cX5_burden 11 = .ok (.i2f, 1) := by decide +kernel
theorem dX5_burden_12 : decode cX5_burden 12 = .ok (.goto 17, 3) := by decide +kernel
theorem dX5_burden_15 : decode cX5_burden 15 = .ok (.aload_n 0, 1) := by decide +kernel
theorem dX5_burden_16 : decode cX5_burden 16 = .ok (.getfield 13, 3) := by decide +kernel
theorem dX5_burden_19 : decode cX5_burden 19 = .ok (.i2f, 1) := by decide +kernel
theorem dX5_burden_20 : decode cX5_burden 20 = .ok (.ldc 19, 2) := by decide +kernel
theorem dX5_burden_22 : decode cX5_burden 22 = .ok (.aload_n 0, 1) := by decide +kernel
theorem dX5_burden_23 : decode cX5_burden 23 = .ok (.getfield 16, 3) := by decide +kernel
theorem dX5_burden_26 : decode cX5_burden 26 = .ok (.i2f, 1) := by decide +kernel
theorem dX5_burden_27 : decode cX5_burden 27 = .ok (.fmul, 1) := by decide +kernel
theorem dX5_burden_28 : decode cX5_burden 28 = .ok (.fadd, 1) := by decide +kernel
theorem dX5_burden_29 : decode cX5_burden 29 = .ok (.freturn, 1) := by decide +kernel
theorem dX5_strainOnIce_0 : decode cX5_strainOnIce 0 = .ok (.aload_n 0, 1) := by decide +kernel
theorem dX5_strainOnIce_1 : decode cX5_strainOnIce 1 = .ok (.getfield 13, 3) := by decide +kernel
theorem dX5_strainOnIce_4 : decode cX5_strainOnIce 4 = .ok (.bipush 10, 2) := by decide +kernel
theorem dX5_strainOnIce_6 : decode cX5_strainOnIce 6 = .ok (.idiv, 1) := by decide +kernel
theorem dX5_strainOnIce_7 : decode cX5_strainOnIce 7 = .ok (.iconst 1, 1) := by decide +kernel
theorem dX5_strainOnIce_8 : decode cX5_strainOnIce 8 = .ok (.iadd, 1) := by decide +kernel
theorem dX5_strainOnIce_9 : decode cX5_strainOnIce 9 = .ok (.ireturn, 1) := by decide +kernel
theorem dX6_init_0 : decode cX6_init 0 = .ok (.aload_n 0, 1) := by decide +kernel
theorem dX6_init_1 : decode cX6_init 1 = .ok (.invokespecial 3, 3) := by decide +kernel
theorem dX6_init_4 : decode cX6_init 4 = .ok (.aload_n 0, 1) := by decide +kernel
theorem dX6_init_5 : decode cX6_init 5 = .ok (.new 9, 3) := by decide +kernel
theorem dX6_init_8 : decode cX6_init 8 = .ok (.dup, 1) := by decide +kernel
theorem dX6_init_9 : decode cX6_init 9 = .ok (.invokespecial 11, 3) := by decide +kernel
theorem dX6_init_12 : decode cX6_init 12 = .ok (.putfield 12, 3) := by decide +kernel
theorem dX6_init_15 : decode cX6_init 15 = .ok (.aload_n 0, 1) := by decide +kernel
theorem dX6_init_16 : decode cX6_init 16 = .ok (.new 9, 3) := by decide +kernel
theorem dX6_init_19 : decode cX6_init 19 = .ok (.dup, 1) := by decide +kernel
theorem dX6_init_20 : decode cX6_init 20 = .ok (.invokespecial 11, 3) := by decide +kernel
theorem dX6_init_23 : decode cX6_init 23 = .ok (.putfield 16, 3) := by decide +kernel
theorem dX6_init_26 : decode cX6_init 26 = .ok (.aload_n 0, 1) := by decide +kernel
theorem dX6_init_27 : decode cX6_init 27 = .ok (.new 9, 3) := by decide +kernel
theorem dX6_init_30 : decode cX6_init 30 = .ok (.dup, 1) := by decide +kernel
theorem dX6_init_31 : decode cX6_init 31 = .ok (.invokespecial 11, 3) := by decide +kernel
theorem dX6_init_34 : decode cX6_init 34 = .ok (.putfield 19, 3) := by decide +kernel
theorem dX6_init_37 : decode cX6_init 37 = .ok (.aload_n 0, 1) := by decide +kernel
theorem dX6_init_38 : decode cX6_init 38 = .ok (.iconst 0, 1) := by decide +kernel
theorem dX6_init_39 : decode cX6_init 39 = .ok (.putfield 22, 3) := by decide +kernel
theorem dX6_init_42 : decode cX6_init 42 = .ok (.aload_n 0, 1) := by decide +kernel
theorem dX6_init_43 : decode cX6_init 43 = .ok (.new 26, 3) := by decide +kernel
theorem dX6_init_46 : decode cX6_init 46 = .ok (.dup, 1) := by decide +kernel
theorem dX6_init_47 : decode cX6_init 47 = .ok (.invokespecial 28, 3) := by decide +kernel
theorem dX6_init_50 : decode cX6_init 50 = .ok (.putfield 29, 3) := by decide +kernel
theorem dX6_init_53 : decode cX6_init 53 = .ok (.aload_n 0, 1) := by decide +kernel
theorem dX6_init_54 : decode cX6_init 54 = .ok (.new 33, 3) := by decide +kernel
theorem dX6_init_57 : decode cX6_init 57 = .ok (.dup, 1) := by decide +kernel
theorem dX6_init_58 : decode cX6_init 58 = .ok (.invokespecial 35, 3) := by decide +kernel
theorem dX6_init_61 : decode cX6_init 61 = .ok (.putfield 36, 3) := by decide +kernel
theorem dX6_init_64 : decode cX6_init 64 = .ok (.aload_n 0, 1) := by decide +kernel
theorem dX6_init_65 : decode cX6_init 65 = .ok (.iconst (-1), 1) := by decide +kernel
theorem dX6_init_66 : decode cX6_init 66 = .ok (.putfield 40, 3) := by decide +kernel
theorem dX6_init_69 : decode cX6_init 69 = .ok (.aload_n 0, 1) := by decide +kernel
theorem dX6_init_70 : decode cX6_init 70 = .ok (.iconst 0, 1) := by decide +kernel
theorem dX6_init_71 : decode cX6_init 71 = .ok (.putfield 44, 3) := by decide +kernel
theorem dX6_init_74 : decode cX6_init 74 = .ok (.return_, 1) := by decide +kernel
theorem dX6_set_0 : decode cX6_set 0 = .ok (.iload_n 1, 1) := by decide +kernel
theorem dX6_set_1 : decode cX6_set 1 = .ok (.iload_n 2, 1) := by decide +kernel
theorem dX6_set_2 : decode cX6_set 2 = .ok (.invokestatic 47, 3) := by decide +kernel
theorem dX6_set_5 : decode cX6_set 5 = .ok (.ifCond .ne 13, 3) := by decide +kernel
theorem dX6_set_8 : decode cX6_set 8 = .ok (.new 51, 3) := by decide +kernel
theorem dX6_set_11 : decode cX6_set 11 = .ok (.dup, 1) := by decide +kernel
theorem dX6_set_12 : decode cX6_set 12 = .ok (.ldc 53, 2) := by decide +kernel
theorem dX6_set_14 : decode cX6_set 14 = .ok (.invokespecial 55, 3) := by decide +kernel
theorem dX6_set_17 : decode cX6_set 17 = .ok (.athrow, 1) := by decide +kernel
theorem dX6_set_18 : decode cX6_set 18 = .ok (.aload_n 0, 1) := by decide +kernel
theorem dX6_set_19 : decode cX6_set 19 = .ok (.getfield 29, 3) := by decide +kernel
theorem dX6_set_22 : decode cX6_set 22 = .ok (.aload_n 0, 1) := by decide +kernel
theorem dX6_set_23 : decode cX6_set 23 = .ok (.getfield 12, 3) := by decide +kernel
theorem dX6_set_26 : decode cX6_set 26 = .ok (.invokevirtual 58, 3) := by decide +kernel
theorem dX6_set_29 : decode cX6_set 29 = .ok (.aload_n 0, 1) := by decide +kernel
theorem dX6_set_30 : decode cX6_set 30 = .ok (.getfield 12, 3) := by decide +kernel
theorem dX6_set_33 : decode cX6_set 33 = .ok (.getfield 62, 3) := by decide +kernel
theorem dX6_set_36 : decode cX6_set 36 = .ok (.iload_n 1, 1) := by decide +kernel
theorem dX6_set_37 : decode cX6_set 37 = .ok (.iaload, 1) := by decide +kernel
theorem dX6_set_38 : decode cX6_set 38 = .ok (.istore_n 3, 1) := by decide +kernel
theorem dX6_set_39 : decode cX6_set 39 = .ok (.aload_n 0, 1) := by decide +kernel
theorem dX6_set_40 : decode cX6_set 40 = .ok (.getfield 12, 3) := by decide +kernel
theorem dX6_set_43 : decode cX6_set 43 = .ok (.getfield 62, 3) := by decide +kernel
theorem dX6_set_46 : decode cX6_set 46 = .ok (.iload_n 1, 1) := by decide +kernel
theorem dX6_set_47 : decode cX6_set 47 = .ok (.iload_n 2, 1) := by decide +kernel
theorem dX6_set_48 : decode cX6_set 48 = .ok (.iastore, 1) := by decide +kernel
theorem dX6_set_49 : decode cX6_set 49 = .ok (.iload_n 3, 1) := by decide +kernel
theorem dX6_set_50 : decode cX6_set 50 = .ok (.ireturn, 1) := by decide +kernel
theorem dX6_setting_0 : decode cX6_setting 0 = .ok (.iload_n 1, 1) := by decide +kernel
theorem dX6_setting_1 : decode cX6_setting 1 = .ok (.invokestatic 66, 3) := by decide +kernel
theorem dX6_setting_4 : decode cX6_setting 4 = .ok (.ifCond .ne 13, 3) := by decide +kernel
theorem dX6_setting_7 : decode cX6_setting 7 = .ok (.new 51, 3) := by decide +kernel
theorem dX6_setting_10 : decode cX6_setting 10 = .ok (.dup, 1) := by decide +kernel
theorem dX6_setting_11 : decode cX6_setting 11 = .ok (.ldc 70, 2) := by decide +kernel
theorem dX6_setting_13 : decode cX6_setting 13 = .ok (.invokespecial 55, 3) := by decide +kernel
theorem dX6_setting_16 : decode cX6_setting 16 = .ok (.athrow, 1) := by decide +kernel
theorem dX6_setting_17 : decode cX6_setting 17 = .ok (.aload_n 0, 1) := by decide +kernel
theorem dX6_setting_18 : decode cX6_setting 18 = .ok (.getfield 12, 3) := by decide +kernel
theorem dX6_setting_21 : decode cX6_setting 21 = .ok (.getfield 62, 3) := by decide +kernel
theorem dX6_setting_24 : decode cX6_setting 24 = .ok (.iload_n 1, 1) := by decide +kernel
theorem dX6_setting_25 : decode cX6_setting 25 = .ok (.iaload, 1) := by decide +kernel
theorem dX6_setting_26 : decode cX6_setting 26 = .ok (.ireturn, 1) := by decide +kernel
theorem dX6_drill_0 : decode cX6_drill 0 = .ok (.iload_n 1, 1) := by decide +kernel
theorem dX6_drill_1 : decode cX6_drill 1 = .ok (.invokestatic 72, 3) := by decide +kernel
theorem dX6_drill_4 : decode cX6_drill 4 = .ok (.ifCond .ne 13, 3) := by decide +kernel
theorem dX6_drill_7 : decode cX6_drill 7 = .ok (.new 75, 3) := by decide +kernel
theorem dX6_drill_10 : decode cX6_drill 10 = .ok (.dup, 1) := by decide +kernel
theorem dX6_drill_11 : decode cX6_drill 11 = .ok (.ldc 77, 2) := by decide +kernel
theorem dX6_drill_13 : decode cX6_drill 13 = .ok (.invokespecial 79, 3) := by decide +kernel
theorem dX6_drill_16 : decode cX6_drill 16 = .ok (.athrow, 1) := by decide +kernel
theorem dX6_drill_17 : decode cX6_drill 17 = .ok (.aload_n 0, 1) := by decide +kernel
theorem dX6_drill_18 : decode cX6_drill 18 = .ok (.getfield 29, 3) := by decide +kernel
theorem dX6_drill_21 : decode cX6_drill 21 = .ok (.aload_n 0, 1) := by decide +kernel
theorem dX6_drill_22 : decode cX6_drill 22 = .ok (.getfield 12, 3) := by decide +kernel
theorem dX6_drill_25 : decode cX6_drill 25 = .ok (.invokevirtual 58, 3) := by decide +kernel
theorem dX6_drill_28 : decode cX6_drill 28 = .ok (.aload_n 0, 1) := by decide +kernel
theorem dX6_drill_29 : decode cX6_drill 29 = .ok (.getfield 12, 3) := by decide +kernel
theorem dX6_drill_32 : decode cX6_drill 32 = .ok (.aload_n 0, 1) := by decide +kernel
theorem dX6_drill_33 : decode cX6_drill 33 = .ok (.getfield 12, 3) := by decide +kernel
theorem dX6_drill_36 : decode cX6_drill 36 = .ok (.getfield 80, 3) := by decide +kernel
theorem dX6_drill_39 : decode cX6_drill 39 = .ok (.iload_n 1, 1) := by decide +kernel
theorem dX6_drill_40 : decode cX6_drill 40 = .ok (.aaload, 1) := by decide +kernel
theorem dX6_drill_41 : decode cX6_drill 41 = .ok (.invokevirtual 84, 3) := by decide +kernel
theorem dX6_drill_44 : decode cX6_drill 44 = .ok (.aload_n 0, 1) := by decide +kernel
theorem dX6_drill_45 : decode cX6_drill 45 = .ok (.getfield 12, 3) := by decide +kernel
theorem dX6_drill_48 : decode cX6_drill 48 = .ok (.getfield 80, 3) := by decide +kernel
theorem dX6_drill_51 : decode cX6_drill 51 = .ok (.iload_n 1, 1) := by decide +kernel
theorem dX6_drill_52 : decode cX6_drill 52 = .ok (.aaload, 1) := by decide +kernel
theorem dX6_drill_53 : decode cX6_drill 53 = .ok (.getfield 88, 3) := by decide +kernel
theorem dX6_drill_56 : decode cX6_drill 56 = .ok (.invokestatic 94, 3) := by decide +kernel
theorem dX6_drill_59 : decode cX6_drill 59 = .ok (.ireturn, 1) := by decide +kernel
theorem dX6_drilled_0 : decode cX6_drilled 0 = .ok (.iload_n 1, 1) := by decide +kernel
theorem dX6_drilled_1 : decode cX6_drilled 1 = .ok (.invokestatic 72, 3) := by decide +kernel
theorem dX6_drilled_4 : decode cX6_drilled 4 = .ok (.ifCond .ne 13, 3) := by decide +kernel
theorem dX6_drilled_7 : decode cX6_drilled 7 = .ok (.new 75, 3) := by decide +kernel
theorem dX6_drilled_10 : decode cX6_drilled 10 = .ok (.dup, 1) := by decide +kernel
theorem dX6_drilled_11 : decode cX6_drilled 11 = .ok (.ldc 77, 2) := by decide +kernel
theorem dX6_drilled_13 : decode cX6_drilled 13 = .ok (.invokespecial 79, 3) := by decide +kernel
theorem dX6_drilled_16 : decode cX6_drilled 16 = .ok (.athrow, 1) := by decide +kernel
theorem dX6_drilled_17 : decode cX6_drilled 17 = .ok (.aload_n 0, 1) := by decide +kernel
theorem dX6_drilled_18 : decode cX6_drilled 18 = .ok (.getfield 12, 3) := by decide +kernel
theorem dX6_drilled_21 : decode cX6_drilled 21 = .ok (.getfield 80, 3) := by decide +kernel
theorem dX6_drilled_24 : decode cX6_drilled 24 = .ok (.iload_n 1, 1) := by decide +kernel
theorem dX6_drilled_25 : decode cX6_drilled 25 = .ok (.aaload, 1) := by decide +kernel
theorem dX6_drilled_26 : decode cX6_drilled 26 = .ok (.getfield 98, 3) := by decide +kernel
theorem dX6_drilled_29 : decode cX6_drilled 29 = .ok (.ifCond .ge 13, 3) := by decide +kernel
theorem dX6_drilled_32 : decode cX6_drilled 32 = .ok (.new 101, 3) := by decide +kernel
theorem dX6_drilled_35 : decode cX6_drilled 35 = .ok (.dup, 1) := by decide +kernel
theorem dX6_drilled_36 : decode cX6_drilled 36 = .ok (.ldc 103, 2) := by decide +kernel
theorem dX6_drilled_38 : decode cX6_drilled 38 = .ok (.invokespecial 105, 3) := by decide +kernel
theorem dX6_drilled_41 : decode cX6_drilled 41 = .ok (.athrow, 1) := by decide +kernel
theorem dX6_drilled_42 : decode cX6_drilled 42 = .ok (.aload_n 0, 1) := by decide +kernel
theorem dX6_drilled_43 : decode cX6_drilled 43 = .ok (.getfield 12, 3) := by decide +kernel
theorem dX6_drilled_46 : decode cX6_drilled 46 = .ok (.getfield 80, 3) := by decide +kernel
theorem dX6_drilled_49 : decode cX6_drilled 49 = .ok (.iload_n 1, 1) := by decide +kernel
theorem dX6_drilled_50 : decode cX6_drilled 50 = .ok (.aaload, 1) := by decide +kernel
theorem dX6_drilled_51 : decode cX6_drilled 51 = .ok (.getfield 88, 3) := by decide +kernel
theorem dX6_drilled_54 : decode cX6_drilled 54 = .ok (.invokestatic 94, 3) := by decide +kernel
theorem dX6_drilled_57 : decode cX6_drilled 57 = .ok (.ireturn, 1) := by decide +kernel
theorem dX6_mileOf_0 : decode cX6_mileOf 0 = .ok (.iload_n 1, 1) := by decide +kernel
theorem dX6_mileOf_1 : decode cX6_mileOf 1 = .ok (.invokestatic 72, 3) := by decide +kernel
theorem dX6_mileOf_4 : decode cX6_mileOf 4 = .ok (.ifCond .ne 13, 3) := by decide +kernel
theorem dX6_mileOf_7 : decode cX6_mileOf 7 = .ok (.new 75, 3) := by decide +kernel
theorem dX6_mileOf_10 : decode cX6_mileOf 10 = .ok (.dup, 1) := by decide +kernel
theorem dX6_mileOf_11 : decode cX6_mileOf 11 = .ok (.ldc 77, 2) := by decide +kernel
theorem dX6_mileOf_13 : decode cX6_mileOf 13 = .ok (.invokespecial 79, 3) := by decide +kernel
theorem dX6_mileOf_16 : decode cX6_mileOf 16 = .ok (.athrow, 1) := by decide +kernel
theorem dX6_mileOf_17 : decode cX6_mileOf 17 = .ok (.aload_n 0, 1) := by decide +kernel
theorem dX6_mileOf_18 : decode cX6_mileOf 18 = .ok (.getfield 12, 3) := by decide +kernel
theorem dX6_mileOf_21 : decode cX6_mileOf 21 = .ok (.getfield 80, 3) := by decide +kernel
theorem dX6_mileOf_24 : decode cX6_mileOf 24 = .ok (.iload_n 1, 1) := by decide +kernel
theorem dX6_mileOf_25 : decode cX6_mileOf 25 = .ok (.aaload, 1) := by decide +kernel
theorem dX6_mileOf_26 : decode cX6_mileOf 26 = .ok (.astore_n 3, 1) := by decide +kernel
theorem dX6_mileOf_27 : decode cX6_mileOf 27 = .ok (.iload_n 2, 1) := by decide +kernel
theorem dX6_mileOf_28 : decode cX6_mileOf 28 = .ok (.tableswitch 73 0 4 #[36, 41, 46, 51, 68], 36) := by decide +kernel
theorem dX6_mileOf_64 : decode cX6_mileOf 64 = .ok (.aload_n 3, 1) := by decide +kernel
theorem dX6_mileOf_65 : decode cX6_mileOf 65 = .ok (.getfield 106, 3) := by decide +kernel
theorem dX6_mileOf_68 : decode cX6_mileOf 68 = .ok (.ireturn, 1) := by decide +kernel
theorem dX6_mileOf_69 : decode cX6_mileOf 69 = .ok (.aload_n 3, 1) := by decide +kernel
theorem dX6_mileOf_70 : decode cX6_mileOf 70 = .ok (.getfield 109, 3) := by decide +kernel
theorem dX6_mileOf_73 : decode cX6_mileOf 73 = .ok (.ireturn, 1) := by decide +kernel
theorem dX6_mileOf_74 : decode cX6_mileOf 74 = .ok (.aload_n 3, 1) := by decide +kernel
theorem dX6_mileOf_75 : decode cX6_mileOf 75 = .ok (.getfield 98, 3) := by decide +kernel
theorem dX6_mileOf_78 : decode cX6_mileOf 78 = .ok (.ireturn, 1) := by decide +kernel
theorem dX6_mileOf_79 : decode cX6_mileOf 79 = .ok (.aload_n 0, 1) := by decide +kernel
theorem dX6_mileOf_80 : decode cX6_mileOf 80 = .ok (.getfield 12, 3) := by decide +kernel
theorem dX6_mileOf_83 : decode cX6_mileOf 83 = .ok (.aload_n 3, 1) := by decide +kernel
theorem dX6_mileOf_84 : decode cX6_mileOf 84 = .ok (.invokevirtual 112, 3) := by decide +kernel
theorem dX6_mileOf_87 : decode cX6_mileOf 87 = .ok (.ifCond .eq 7, 3) := by decide +kernel
theorem dX6_mileOf_90 : decode cX6_mileOf 90 = .ok (.iconst 1, 1) := by decide +kernel
theorem dX6_mileOf_91 : decode cX6_mileOf 91 = .ok (.goto 4, 3) := by decide +kernel
theorem dX6_mileOf_94 : decode cX6_mileOf 94 = .ok (.iconst 0, 1) := by decide +kernel
theorem dX6_mileOf_95 : decode cX6_mileOf 95 = .ok (.ireturn, 1) := by decide +kernel
theorem dX6_mileOf_96 : decode cX6_mileOf 96 = .ok (.aload_n 3, 1) := by decide +kernel
theorem dX6_mileOf_97 : decode cX6_mileOf 97 = .ok (.getfield 116, 3) := by decide +kernel
theorem dX6_mileOf_100 : decode cX6_mileOf 100 = .ok (.ireturn, 1) := by decide +kernel
theorem dX6_mileOf_101 : decode cX6_mileOf 101 = .ok (.new 51, 3) := by decide +kernel
theorem dX6_mileOf_104 : decode cX6_mileOf 104 = .ok (.dup, 1) := by decide +kernel
theorem dX6_mileOf_105 : decode cX6_mileOf 105 = .ok (.ldc 119, 2) := by decide +kernel
theorem dX6_mileOf_107 : decode cX6_mileOf 107 = .ok (.invokespecial 55, 3) := by decide +kernel
theorem dX6_mileOf_110 : decode cX6_mileOf 110 = .ok (.athrow, 1) := by decide +kernel
theorem dX6_ice_0 : decode cX6_ice 0 = .ok (.iload_n 1, 1) := by decide +kernel
theorem dX6_ice_1 : decode cX6_ice 1 = .ok (.invokestatic 72, 3) := by decide +kernel
theorem dX6_ice_4 : decode cX6_ice 4 = .ok (.ifCond .ne 13, 3) := by decide +kernel
theorem dX6_ice_7 : decode cX6_ice 7 = .ok (.new 75, 3) := by decide +kernel
theorem dX6_ice_10 : decode cX6_ice 10 = .ok (.dup, 1) := by decide +kernel
theorem dX6_ice_11 : decode cX6_ice 11 = .ok (.ldc 77, 2) := by decide +kernel
theorem dX6_ice_13 : decode cX6_ice 13 = .ok (.invokespecial 79, 3) := by decide +kernel
theorem dX6_ice_16 : decode cX6_ice 16 = .ok (.athrow, 1) := by decide +kernel
theorem dX6_ice_17 : decode cX6_ice 17 = .ok (.aload_n 0, 1) := by decide +kernel
theorem dX6_ice_18 : decode cX6_ice 18 = .ok (.getfield 12, 3) := by decide +kernel
theorem dX6_ice_21 : decode cX6_ice 21 = .ok (.getfield 80, 3) := by decide +kernel
theorem dX6_ice_24 : decode cX6_ice 24 = .ok (.iload_n 1, 1) := by decide +kernel
theorem dX6_ice_25 : decode cX6_ice 25 = .ok (.aaload, 1) := by decide +kernel
theorem dX6_ice_26 : decode cX6_ice 26 = .ok (.getfield 121, 3) := by decide +kernel
theorem dX6_ice_29 : decode cX6_ice 29 = .ok (.freturn, 1) := by decide +kernel
theorem dX6_bears_0 : decode cX6_bears 0 = .ok (.iload_n 1, 1) := by decide +kernel
theorem dX6_bears_1 : decode cX6_bears 1 = .ok (.invokestatic 72, 3) := by decide +kernel
theorem dX6_bears_4 : decode cX6_bears 4 = .ok (.ifCond .ne 13, 3) := by decide +kernel
theorem dX6_bears_7 : decode cX6_bears 7 = .ok (.new 75, 3) := by decide +kernel
theorem dX6_bears_10 : decode cX6_bears 10 = .ok (.dup, 1) := by decide +kernel
theorem dX6_bears_11 : decode cX6_bears 11 = .ok (.ldc 77, 2) := by decide +kernel
theorem dX6_bears_13 : decode cX6_bears 13 = .ok (.invokespecial 79, 3) := by decide +kernel
theorem dX6_bears_16 : decode cX6_bears 16 = .ok (.athrow, 1) := by decide +kernel
theorem dX6_bears_17 : decode cX6_bears 17 = .ok (.aload_n 0, 1) := by decide +kernel
theorem dX6_bears_18 : decode cX6_bears 18 = .ok (.getfield 12, 3) := by decide +kernel
theorem dX6_bears_21 : decode cX6_bears 21 = .ok (.aload_n 0, 1) := by decide +kernel
theorem dX6_bears_22 : decode cX6_bears 22 = .ok (.getfield 12, 3) := by decide +kernel
theorem dX6_bears_25 : decode cX6_bears 25 = .ok (.getfield 80, 3) := by decide +kernel
theorem dX6_bears_28 : decode cX6_bears 28 = .ok (.iload_n 1, 1) := by decide +kernel
theorem dX6_bears_29 : decode cX6_bears 29 = .ok (.aaload, 1) := by decide +kernel
theorem dX6_bears_30 : decode cX6_bears 30 = .ok (.invokevirtual 124, 3) := by decide +kernel
theorem dX6_bears_33 : decode cX6_bears 33 = .ok (.invokestatic 94, 3) := by decide +kernel
theorem dX6_bears_36 : decode cX6_bears 36 = .ok (.ireturn, 1) := by decide +kernel
theorem dX6_sign_0 : decode cX6_sign 0 = .ok (.iload_n 1, 1) := by decide +kernel
theorem dX6_sign_1 : decode cX6_sign 1 = .ok (.invokestatic 72, 3) := by decide +kernel
theorem dX6_sign_4 : decode cX6_sign 4 = .ok (.ifCond .ne 13, 3) := by decide +kernel
theorem dX6_sign_7 : decode cX6_sign 7 = .ok (.new 75, 3) := by decide +kernel
theorem dX6_sign_10 : decode cX6_sign 10 = .ok (.dup, 1) := by decide +kernel
theorem dX6_sign_11 : decode cX6_sign 11 = .ok (.ldc 77, 2) := by decide +kernel
theorem dX6_sign_13 : decode cX6_sign 13 = .ok (.invokespecial 79, 3) := by decide +kernel
theorem dX6_sign_16 : decode cX6_sign 16 = .ok (.athrow, 1) := by decide +kernel
theorem dX6_sign_17 : decode cX6_sign 17 = .ok (.aload_n 0, 1) := by decide +kernel
theorem dX6_sign_18 : decode cX6_sign 18 = .ok (.getfield 12, 3) := by decide +kernel
theorem dX6_sign_21 : decode cX6_sign 21 = .ok (.iload_n 1, 1) := by decide +kernel
theorem dX6_sign_22 : decode cX6_sign 22 = .ok (.invokevirtual 128, 3) := by decide +kernel
theorem dX6_sign_25 : decode cX6_sign 25 = .ok (.ifCond .lt 6, 3) := by decide +kernel
theorem dX6_sign_28 : decode cX6_sign 28 = .ok (.bipush 84, 2) := by decide +kernel
theorem dX6_sign_30 : decode cX6_sign 30 = .ok (.ireturn, 1) := by decide +kernel
theorem dX6_sign_31 : decode cX6_sign 31 = .ok (.aload_n 0, 1) := by decide +kernel
theorem dX6_sign_32 : decode cX6_sign 32 = .ok (.getfield 12, 3) := by decide +kernel
theorem dX6_sign_35 : decode cX6_sign 35 = .ok (.getfield 80, 3) := by decide +kernel
theorem dX6_sign_38 : decode cX6_sign 38 = .ok (.iload_n 1, 1) := by decide +kernel
theorem dX6_sign_39 : decode cX6_sign 39 = .ok (.aaload, 1) := by decide +kernel
theorem dX6_sign_40 : decode cX6_sign 40 = .ok (.astore_n 2, 1) := by decide +kernel
theorem dX6_sign_41 : decode cX6_sign 41 = .ok (.aload_n 0, 1) := by decide +kernel
theorem dX6_sign_42 : decode cX6_sign 42 = .ok (.getfield 12, 3) := by decide +kernel
theorem dX6_sign_45 : decode cX6_sign 45 = .ok (.aload_n 2, 1) := by decide +kernel
theorem dX6_sign_46 : decode cX6_sign 46 = .ok (.invokevirtual 112, 3) := by decide +kernel
theorem dX6_sign_49 : decode cX6_sign 49 = .ok (.ifCond .eq 14, 3) := by decide +kernel
theorem dX6_sign_52 : decode cX6_sign 52 = .ok (.bipush 48, 2) := by decide +kernel
theorem dX6_sign_54 : decode cX6_sign 54 = .ok (.aload_n 2, 1) := by decide +kernel
theorem dX6_sign_55 : decode cX6_sign 55 = .ok (.getfield 106, 3) := by decide +kernel
theorem dX6_sign_58 : decode cX6_sign 58 = .ok (.iadd, 1) := by decide +kernel
theorem dX6_sign_59 : decode cX6_sign 59 = .ok (.i2c, 1) := by decide +kernel
theorem dX6_sign_60 : decode cX6_sign 60 = .ok (.goto 5, 3) := by decide +kernel
theorem dX6_sign_63 : decode cX6_sign 63 = .ok (.bipush 63, 2) := by decide +kernel
theorem dX6_sign_65 : decode cX6_sign 65 = .ok (.ireturn, 1) := by decide +kernel
theorem dX6_weakest_0 : decode cX6_weakest 0 = .ok (.iconst 0, 1) := by decide +kernel
theorem dX6_weakest_1 : decode cX6_weakest 1 = .ok (.istore_n 1, 1) := by decide +kernel
theorem dX6_weakest_2 : decode cX6_weakest 2 = .ok (.aload_n 0, 1) := by decide +kernel
theorem dX6_weakest_3 : decode cX6_weakest 3 = .ok (.getfield 12, 3) := by decide +kernel
theorem dX6_weakest_6 : decode cX6_weakest 6 = .ok (.aload_n 0, 1) := by decide +kernel
theorem dX6_weakest_7 : decode cX6_weakest 7 = .ok (.getfield 12, 3) := by decide +kernel
theorem dX6_weakest_10 : decode cX6_weakest 10 = .ok (.getfield 80, 3) := by decide +kernel
theorem dX6_weakest_13 : decode cX6_weakest 13 = .ok (.iconst 0, 1) := by decide +kernel
theorem dX6_weakest_14 : decode cX6_weakest 14 = .ok (.aaload, 1) := by decide +kernel
theorem dX6_weakest_15 : decode cX6_weakest 15 = .ok (.invokevirtual 124, 3) := by decide +kernel
theorem dX6_weakest_18 : decode cX6_weakest 18 = .ok (.fstore_n 2, 1) := by decide +kernel
theorem dX6_weakest_19 : decode cX6_weakest 19 = .ok (.iconst 1, 1) := by decide +kernel
theorem dX6_weakest_20 : decode cX6_weakest 20 = .ok (.istore_n 3, 1) := by decide +kernel
theorem dX6_weakest_21 : decode cX6_weakest 21 = .ok (.iload_n 3, 1) := by decide +kernel
theorem dX6_weakest_22 : decode cX6_weakest 22 = .ok (.bipush 12, 2) := by decide +kernel
theorem dX6_weakest_24 : decode cX6_weakest 24 = .ok (.if_icmp .ge 39, 3) := by decide +kernel
theorem dX6_weakest_27 : decode cX6_weakest 27 = .ok (.aload_n 0, 1) := by decide +kernel
theorem dX6_weakest_28 : decode cX6_weakest 28 = .ok (.getfield 12, 3) := by decide +kernel
theorem dX6_weakest_31 : decode cX6_weakest 31 = .ok (.aload_n 0, 1) := by decide +kernel
theorem dX6_weakest_32 : decode cX6_weakest 32 = .ok (.getfield 12, 3) := by decide +kernel
theorem dX6_weakest_35 : decode cX6_weakest 35 = .ok (.getfield 80, 3) := by decide +kernel
theorem dX6_weakest_38 : decode cX6_weakest 38 = .ok (.iload_n 3, 1) := by decide +kernel
theorem dX6_weakest_39 : decode cX6_weakest 39 = .ok (.aaload, 1) := by decide +kernel
theorem dX6_weakest_40 : decode cX6_weakest 40 = .ok (.invokevirtual 124, 3) := by decide +kernel
theorem dX6_weakest_43 : decode cX6_weakest 43 = .ok (.fstore 4, 2) := by decide +kernel
theorem dX6_weakest_45 : decode cX6_weakest 45 = .ok (.fload 4, 2) := by decide +kernel
theorem dX6_weakest_47 : decode cX6_weakest 47 = .ok (.fload_n 2, 1) := by decide +kernel
theorem dX6_weakest_48 : decode cX6_weakest 48 = .ok (.fcmp .g, 1) := by decide +kernel
theorem dX6_weakest_49 : decode cX6_weakest 49 = .ok (.ifCond .ge 8, 3) := by decide +kernel
theorem dX6_weakest_52 : decode cX6_weakest 52 = .ok (.fload 4, 2) := by decide +kernel
theorem dX6_weakest_54 : decode cX6_weakest 54 = .ok (.fstore_n 2, 1) := by decide +kernel
theorem dX6_weakest_55 : decode cX6_weakest 55 = .ok (.iload_n 3, 1) := by decide +kernel
theorem dX6_weakest_56 : decode cX6_weakest 56 = .ok (.istore_n 1, 1) := by decide +kernel
theorem dX6_weakest_57 : decode cX6_weakest 57 = .ok (.iinc 3 1, 3) := by decide +kernel
theorem dX6_weakest_60 : decode cX6_weakest 60 = .ok (.goto (-39), 3) := by decide +kernel
theorem dX6_weakest_63 : decode cX6_weakest 63 = .ok (.iload_n 1, 1) := by decide +kernel
theorem dX6_weakest_64 : decode cX6_weakest 64 = .ok (.ireturn, 1) := by decide +kernel
theorem dX6_truck_0 : decode cX6_truck 0 = .ok (.iload 4, 2) := by decide +kernel
theorem dX6_truck_2 : decode cX6_truck 2 = .ok (.invokestatic 132, 3) := by decide +kernel
theorem dX6_truck_5 : decode cX6_truck 5 = .ok (.ifCond .ne 13, 3) := by decide +kernel
theorem dX6_truck_8 : decode cX6_truck 8 = .ok (.new 75, 3) := by decide +kernel
theorem dX6_truck_11 : decode cX6_truck 11 = .ok (.dup, 1) := by decide +kernel
theorem dX6_truck_12 : decode cX6_truck 12 = .ok (.ldc 135, 2) := by decide +kernel
theorem dX6_truck_14 : decode cX6_truck 14 = .ok (.invokespecial 79, 3) := by decide +kernel
theorem dX6_truck_17 : decode cX6_truck 17 = .ok (.athrow, 1) := by decide +kernel
theorem dX6_truck_18 : decode cX6_truck 18 = .ok (.iload_n 1, 1) := by decide +kernel
theorem dX6_truck_19 : decode cX6_truck 19 = .ok (.ifCond .lt 30, 3) := by decide +kernel
theorem dX6_truck_22 : decode cX6_truck 22 = .ok (.iload_n 1, 1) := by decide +kernel
theorem dX6_truck_23 : decode cX6_truck 23 = .ok (.iconst 1, 1) := by decide +kernel
theorem dX6_truck_24 : decode cX6_truck 24 = .ok (.if_icmp .gt 25, 3) := by decide +kernel
theorem dX6_truck_27 : decode cX6_truck 27 = .ok (.iload_n 2, 1) := by decide +kernel
theorem dX6_truck_28 : decode cX6_truck 28 = .ok (.iconst 5, 1) := by decide +kernel
theorem dX6_truck_29 : decode cX6_truck 29 = .ok (.if_icmp .lt 20, 3) := by decide +kernel
theorem dX6_truck_32 : decode cX6_truck 32 = .ok (.iload_n 2, 1) := by decide +kernel
theorem dX6_truck_33 : decode cX6_truck 33 = .ok (.bipush 60, 2) := by decide +kernel
theorem dX6_truck_35 : decode cX6_truck 35 = .ok (.if_icmp .gt 14, 3) := by decide +kernel
theorem dX6_truck_38 : decode cX6_truck 38 = .ok (.iload_n 3, 1) := by decide +kernel
theorem dX6_truck_39 : decode cX6_truck 39 = .ok (.iconst 2, 1) := by decide +kernel
theorem dX6_truck_40 : decode cX6_truck 40 = .ok (.if_icmp .lt 9, 3) := by decide +kernel
theorem dX6_truck_43 : decode cX6_truck 43 = .ok (.iload_n 3, 1) := by decide +kernel
theorem dX6_truck_44 : decode cX6_truck 44 = .ok (.bipush 6, 2) := by decide +kernel
theorem dX6_truck_46 : decode cX6_truck 46 = .ok (.if_icmp .le 13, 3) := by decide +kernel
theorem dX6_truck_49 : decode cX6_truck 49 = .ok (.new 51, 3) := by decide +kernel
theorem dX6_truck_52 : decode cX6_truck 52 = .ok (.dup, 1) := by decide +kernel
theorem dX6_truck_53 : decode cX6_truck 53 = .ok (.ldc 137, 2) := by decide +kernel
theorem dX6_truck_55 : decode cX6_truck 55 = .ok (.invokespecial 55, 3) := by decide +kernel
theorem dX6_truck_58 : decode cX6_truck 58 = .ok (.athrow, 1) := by decide +kernel
theorem dX6_truck_59 : decode cX6_truck 59 = .ok (.aload_n 0, 1) := by decide +kernel
theorem dX6_truck_60 : decode cX6_truck 60 = .ok (.getfield 12, 3) := by decide +kernel
theorem dX6_truck_63 : decode cX6_truck 63 = .ok (.iload 4, 2) := by decide +kernel
theorem dX6_truck_65 : decode cX6_truck 65 = .ok (.invokevirtual 139, 3) := by decide +kernel
theorem dX6_truck_68 : decode cX6_truck 68 = .ok (.istore 5, 2) := by decide +kernel
theorem dX6_truck_70 : decode cX6_truck 70 = .ok (.iload 5, 2) := by decide +kernel
theorem dX6_truck_72 : decode cX6_truck 72 = .ok (.ifCond .ge 23, 3) := by decide +kernel
theorem dX6_truck_75 : decode cX6_truck 75 = .ok (.aload_n 0, 1) := by decide +kernel
theorem dX6_truck_76 : decode cX6_truck 76 = .ok (.iconst 2, 1) := by decide +kernel
theorem dX6_truck_77 : decode cX6_truck 77 = .ok (.iload 4, 2) := by decide +kernel
theorem dX6_truck_79 : decode cX6_truck 79 = .ok (.invokestatic 142, 3) := by decide +kernel
theorem dX6_truck_82 : decode cX6_truck 82 = .ok (.putfield 44, 3) := by decide +kernel
theorem dX6_truck_85 : decode cX6_truck 85 = .ok (.new 146, 3) := by decide +kernel
theorem dX6_truck_88 : decode cX6_truck 88 = .ok (.dup, 1) := by decide +kernel
theorem dX6_truck_89 : decode cX6_truck 89 = .ok (.ldc 148, 2) := by decide +kernel
theorem dX6_truck_91 : decode cX6_truck 91 = .ok (.invokespecial 150, 3) := by decide +kernel
theorem dX6_truck_94 : decode cX6_truck 94 = .ok (.athrow, 1) := by decide +kernel
theorem dX6_truck_95 : decode cX6_truck 95 = .ok (.iload_n 1, 1) := by decide +kernel
theorem dX6_truck_96 : decode cX6_truck 96 = .ok (.iload 4, 2) := by decide +kernel
theorem dX6_truck_98 : decode cX6_truck 98 = .ok (.if_icmp .eq 23, 3) := by decide +kernel
theorem dX6_truck_101 : decode cX6_truck 101 = .ok (.aload_n 0, 1) := by decide +kernel
theorem dX6_truck_102 : decode cX6_truck 102 = .ok (.iconst 3, 1) := by decide +kernel
theorem dX6_truck_103 : decode cX6_truck 103 = .ok (.iload 4, 2) := by decide +kernel
theorem dX6_truck_105 : decode cX6_truck 105 = .ok (.invokestatic 142, 3) := by decide +kernel
theorem dX6_truck_108 : decode cX6_truck 108 = .ok (.putfield 44, 3) := by decide +kernel
theorem dX6_truck_111 : decode cX6_truck 111 = .ok (.new 146, 3) := by decide +kernel
theorem dX6_truck_114 : decode cX6_truck 114 = .ok (.dup, 1) := by decide +kernel
theorem dX6_truck_115 : decode cX6_truck 115 = .ok (.ldc 151, 2) := by decide +kernel
theorem dX6_truck_117 : decode cX6_truck 117 = .ok (.invokespecial 150, 3) := by decide +kernel
theorem dX6_truck_120 : decode cX6_truck 120 = .ok (.athrow, 1) := by decide +kernel
theorem dX6_truck_121 : decode cX6_truck 121 = .ok (.aload_n 0, 1) := by decide +kernel
theorem dX6_truck_122 : decode cX6_truck 122 = .ok (.getfield 29, 3) := by decide +kernel
theorem dX6_truck_125 : decode cX6_truck 125 = .ok (.aload_n 0, 1) := by decide +kernel
theorem dX6_truck_126 : decode cX6_truck 126 = .ok (.getfield 12, 3) := by decide +kernel
theorem dX6_truck_129 : decode cX6_truck 129 = .ok (.invokevirtual 58, 3) := by decide +kernel
theorem dX6_truck_132 : decode cX6_truck 132 = .ok (.aload_n 0, 1) := by decide +kernel
theorem dX6_truck_133 : decode cX6_truck 133 = .ok (.getfield 12, 3) := by decide +kernel
theorem dX6_truck_136 : decode cX6_truck 136 = .ok (.getfield 153, 3) := by decide +kernel
theorem dX6_truck_139 : decode cX6_truck 139 = .ok (.iload 4, 2) := by decide +kernel
theorem dX6_truck_141 : decode cX6_truck 141 = .ok (.iconst 5, 1) := by decide +kernel
theorem dX6_truck_142 : decode cX6_truck 142 = .ok (.imul, 1) := by decide +kernel
theorem dX6_truck_143 : decode cX6_truck 143 = .ok (.iload 5, 2) := by decide +kernel
theorem dX6_truck_145 : decode cX6_truck 145 = .ok (.iadd, 1) := by decide +kernel
theorem dX6_truck_146 : decode cX6_truck 146 = .ok (.new 157, 3) := by decide +kernel
theorem dX6_truck_149 : decode cX6_truck 149 = .ok (.dup, 1) := by decide +kernel
theorem dX6_truck_150 : decode cX6_truck 150 = .ok (.iload_n 1, 1) := by decide +kernel
theorem dX6_truck_151 : decode cX6_truck 151 = .ok (.iload_n 2, 1) := by decide +kernel
theorem dX6_truck_152 : decode cX6_truck 152 = .ok (.iload_n 3, 1) := by decide +kernel
theorem dX6_truck_153 : decode cX6_truck 153 = .ok (.invokespecial 159, 3) := by decide +kernel
theorem dX6_truck_156 : decode cX6_truck 156 = .ok (.aastore, 1) := by decide +kernel
theorem dX6_truck_157 : decode cX6_truck 157 = .ok (.aload_n 0, 1) := by decide +kernel
theorem dX6_truck_158 : decode cX6_truck 158 = .ok (.getfield 12, 3) := by decide +kernel
theorem dX6_truck_161 : decode cX6_truck 161 = .ok (.dup, 1) := by decide +kernel
theorem dX6_truck_162 : decode cX6_truck 162 = .ok (.getfield 162, 3) := by decide +kernel
theorem dX6_truck_165 : decode cX6_truck 165 = .ok (.iload_n 2, 1) := by decide +kernel
theorem dX6_truck_166 : decode cX6_truck 166 = .ok (.iadd, 1) := by decide +kernel
theorem dX6_truck_167 : decode cX6_truck 167 = .ok (.putfield 162, 3) := by decide +kernel
theorem dX6_truck_170 : decode cX6_truck 170 = .ok (.iload 5, 2) := by decide +kernel
theorem dX6_truck_172 : decode cX6_truck 172 = .ok (.ireturn, 1) := by decide +kernel
theorem dX6_inRow_0 : decode cX6_inRow 0 = .ok (.iload_n 1, 1) := by decide +kernel
theorem dX6_inRow_1 : decode cX6_inRow 1 = .ok (.invokestatic 132, 3) := by decide +kernel
theorem dX6_inRow_4 : decode cX6_inRow 4 = .ok (.ifCond .eq 10, 3) := by decide +kernel
theorem dX6_inRow_7 : decode cX6_inRow 7 = .ok (.iload_n 2, 1) := by decide +kernel
theorem dX6_inRow_8 : decode cX6_inRow 8 = .ok (.invokestatic 165, 3) := by decide +kernel
theorem dX6_inRow_11 : decode cX6_inRow 11 = .ok (.ifCond .ne 13, 3) := by decide +kernel
theorem dX6_inRow_14 : decode cX6_inRow 14 = .ok (.new 75, 3) := by decide +kernel
theorem dX6_inRow_17 : decode cX6_inRow 17 = .ok (.dup, 1) := by decide +kernel
theorem dX6_inRow_18 : decode cX6_inRow 18 = .ok (.ldc 168, 2) := by decide +kernel
theorem dX6_inRow_20 : decode cX6_inRow 20 = .ok (.invokespecial 79, 3) := by decide +kernel
theorem dX6_inRow_23 : decode cX6_inRow 23 = .ok (.athrow, 1) := by decide +kernel
theorem dX6_inRow_24 : decode cX6_inRow 24 = .ok (.aload_n 0, 1) := by decide +kernel
theorem dX6_inRow_25 : decode cX6_inRow 25 = .ok (.getfield 12, 3) := by decide +kernel
theorem dX6_inRow_28 : decode cX6_inRow 28 = .ok (.getfield 153, 3) := by decide +kernel
theorem dX6_inRow_31 : decode cX6_inRow 31 = .ok (.iload_n 1, 1) := by decide +kernel
theorem dX6_inRow_32 : decode cX6_inRow 32 = .ok (.iconst 5, 1) := by decide +kernel
theorem dX6_inRow_33 : decode cX6_inRow 33 = .ok (.imul, 1) := by decide +kernel
theorem dX6_inRow_34 : decode cX6_inRow 34 = .ok (.iload_n 2, 1) := by decide +kernel
theorem dX6_inRow_35 : decode cX6_inRow 35 = .ok (.iadd, 1) := by decide +kernel
theorem dX6_inRow_36 : decode cX6_inRow 36 = .ok (.aaload, 1) := by decide +kernel
theorem dX6_inRow_37 : decode cX6_inRow 37 = .ok (.astore 4, 2) := by decide +kernel
theorem dX6_inRow_39 : decode cX6_inRow 39 = .ok (.aload 4, 2) := by decide +kernel
theorem dX6_inRow_41 : decode cX6_inRow 41 = .ok (.ifnonnull 13, 3) := by decide +kernel
theorem dX6_inRow_44 : decode cX6_inRow 44 = .ok (.new 101, 3) := by decide +kernel
theorem dX6_inRow_47 : decode cX6_inRow 47 = .ok (.dup, 1) := by decide +kernel
theorem dX6_inRow_48 : decode cX6_inRow 48 = .ok (.ldc 170, 2) := by decide +kernel
theorem dX6_inRow_50 : decode cX6_inRow 50 = .ok (.invokespecial 105, 3) := by decide +kernel
theorem dX6_inRow_53 : decode cX6_inRow 53 = .ok (.athrow, 1) := by decide +kernel
theorem dX6_inRow_54 : decode cX6_inRow 54 = .ok (.iload_n 3, 1) := by decide +kernel
theorem dX6_inRow_55 : decode cX6_inRow 55 = .ok (.ifCond .lt 8, 3) := by decide +kernel
theorem dX6_inRow_58 : decode cX6_inRow 58 = .ok (.iload_n 3, 1) := by decide +kernel
theorem dX6_inRow_59 : decode cX6_inRow 59 = .ok (.iconst 1, 1) := by decide +kernel
theorem dX6_inRow_60 : decode cX6_inRow 60 = .ok (.if_icmp .le 13, 3) := by decide +kernel
theorem dX6_inRow_63 : decode cX6_inRow 63 = .ok (.new 51, 3) := by decide +kernel
theorem dX6_inRow_66 : decode cX6_inRow 66 = .ok (.dup, 1) := by decide +kernel
theorem dX6_inRow_67 : decode cX6_inRow 67 = .ok (.ldc 172, 2) := by decide +kernel
theorem dX6_inRow_69 : decode cX6_inRow 69 = .ok (.invokespecial 55, 3) := by decide +kernel
theorem dX6_inRow_72 : decode cX6_inRow 72 = .ok (.athrow, 1) := by decide +kernel
theorem dX6_inRow_73 : decode cX6_inRow 73 = .ok (.iload_n 3, 1) := by decide +kernel
theorem dX6_inRow_74 : decode cX6_inRow 74 = .ok (.ifCond .ne 11, 3) := by decide +kernel
theorem dX6_inRow_77 : decode cX6_inRow 77 = .ok (.aload 4, 2) := by decide +kernel
theorem dX6_inRow_79 : decode cX6_inRow 79 = .ok (.getfield 174, 3) := by decide +kernel
theorem dX6_inRow_82 : decode cX6_inRow 82 = .ok (.goto 8, 3) := by decide +kernel
theorem dX6_inRow_85 : decode cX6_inRow 85 = .ok (.aload 4, 2) := by decide +kernel
theorem dX6_inRow_87 : decode cX6_inRow 87 = .ok (.getfield 177, 3) := by decide +kernel
theorem dX6_inRow_90 : decode cX6_inRow 90 = .ok (.ireturn, 1) := by decide +kernel
theorem dX6_convoy_0 : decode cX6_convoy 0 = .ok (.iload_n 1, 1) := by decide +kernel
theorem dX6_convoy_1 : decode cX6_convoy 1 = .ok (.iconst 1, 1) := by decide +kernel
theorem dX6_convoy_2 : decode cX6_convoy 2 = .ok (.if_icmp .lt 8, 3) := by decide +kernel
theorem dX6_convoy_5 : decode cX6_convoy 5 = .ok (.iload_n 1, 1) := by decide +kernel
theorem dX6_convoy_6 : decode cX6_convoy 6 = .ok (.iconst 3, 1) := by decide +kernel
theorem dX6_convoy_7 : decode cX6_convoy 7 = .ok (.if_icmp .le 13, 3) := by decide +kernel
theorem dX6_convoy_10 : decode cX6_convoy 10 = .ok (.new 51, 3) := by decide +kernel
theorem dX6_convoy_13 : decode cX6_convoy 13 = .ok (.dup, 1) := by decide +kernel
theorem dX6_convoy_14 : decode cX6_convoy 14 = .ok (.ldc 180, 2) := by decide +kernel
theorem dX6_convoy_16 : decode cX6_convoy 16 = .ok (.invokespecial 55, 3) := by decide +kernel
theorem dX6_convoy_19 : decode cX6_convoy 19 = .ok (.athrow, 1) := by decide +kernel
theorem dX6_convoy_20 : decode cX6_convoy 20 = .ok (.aload_n 0, 1) := by decide +kernel
theorem dX6_convoy_21 : decode cX6_convoy 21 = .ok (.getfield 12, 3) := by decide +kernel
theorem dX6_convoy_24 : decode cX6_convoy 24 = .ok (.getfield 182, 3) := by decide +kernel
theorem dX6_convoy_27 : decode cX6_convoy 27 = .ok (.istore_n 2, 1) := by decide +kernel
theorem dX6_convoy_28 : decode cX6_convoy 28 = .ok (.iload_n 2, 1) := by decide +kernel
theorem dX6_convoy_29 : decode cX6_convoy 29 = .ok (.iconst 4, 1) := by decide +kernel
theorem dX6_convoy_30 : decode cX6_convoy 30 = .ok (.if_icmp .lt 22, 3) := by decide +kernel
theorem dX6_convoy_33 : decode cX6_convoy 33 = .ok (.aload_n 0, 1) := by decide +kernel
theorem dX6_convoy_34 : decode cX6_convoy 34 = .ok (.iconst 1, 1) := by decide +kernel
theorem dX6_convoy_35 : decode cX6_convoy 35 = .ok (.iconst 4, 1) := by decide +kernel
theorem dX6_convoy_36 : decode cX6_convoy 36 = .ok (.invokestatic 142, 3) := by decide +kernel
theorem dX6_convoy_39 : decode cX6_convoy 39 = .ok (.putfield 44, 3) := by decide +kernel
theorem dX6_convoy_42 : decode cX6_convoy 42 = .ok (.new 146, 3) := by decide +kernel
theorem dX6_convoy_45 : decode cX6_convoy 45 = .ok (.dup, 1) := by decide +kernel
theorem dX6_convoy_46 : decode cX6_convoy 46 = .ok (.ldc 185, 2) := by decide +kernel
theorem dX6_convoy_48 : decode cX6_convoy 48 = .ok (.invokespecial 150, 3) := by decide +kernel
theorem dX6_convoy_51 : decode cX6_convoy 51 = .ok (.athrow, 1) := by decide +kernel
theorem dX6_convoy_52 : decode cX6_convoy 52 = .ok (.aload_n 0, 1) := by decide +kernel
theorem dX6_convoy_53 : decode cX6_convoy 53 = .ok (.getfield 29, 3) := by decide +kernel
theorem dX6_convoy_56 : decode cX6_convoy 56 = .ok (.aload_n 0, 1) := by decide +kernel
theorem dX6_convoy_57 : decode cX6_convoy 57 = .ok (.getfield 12, 3) := by decide +kernel
theorem dX6_convoy_60 : decode cX6_convoy 60 = .ok (.invokevirtual 58, 3) := by decide +kernel
theorem dX6_convoy_63 : decode cX6_convoy 63 = .ok (.aload_n 0, 1) := by decide +kernel
theorem dX6_convoy_64 : decode cX6_convoy 64 = .ok (.getfield 12, 3) := by decide +kernel
theorem dX6_convoy_67 : decode cX6_convoy 67 = .ok (.getfield 187, 3) := by decide +kernel
theorem dX6_convoy_70 : decode cX6_convoy 70 = .ok (.iload_n 2, 1) := by decide +kernel
theorem dX6_convoy_71 : decode cX6_convoy 71 = .ok (.aaload, 1) := by decide +kernel
theorem dX6_convoy_72 : decode cX6_convoy 72 = .ok (.iload_n 1, 1) := by decide +kernel
theorem dX6_convoy_73 : decode cX6_convoy 73 = .ok (.putfield 191, 3) := by decide +kernel
theorem dX6_convoy_76 : decode cX6_convoy 76 = .ok (.aload_n 0, 1) := by decide +kernel
theorem dX6_convoy_77 : decode cX6_convoy 77 = .ok (.getfield 12, 3) := by decide +kernel
theorem dX6_convoy_80 : decode cX6_convoy 80 = .ok (.iload_n 2, 1) := by decide +kernel
theorem dX6_convoy_81 : decode cX6_convoy 81 = .ok (.iconst 1, 1) := by decide +kernel
theorem dX6_convoy_82 : decode cX6_convoy 82 = .ok (.iadd, 1) := by decide +kernel
theorem dX6_convoy_83 : decode cX6_convoy 83 = .ok (.putfield 182, 3) := by decide +kernel
theorem dX6_convoy_86 : decode cX6_convoy 86 = .ok (.iload_n 2, 1) := by decide +kernel
theorem dX6_convoy_87 : decode cX6_convoy 87 = .ok (.ireturn, 1) := by decide +kernel
theorem dX6_join_0 : decode cX6_join 0 = .ok (.aload_n 0, 1) := by decide +kernel
theorem dX6_join_1 : decode cX6_join 1 = .ok (.getfield 12, 3) := by decide +kernel
theorem dX6_join_4 : decode cX6_join 4 = .ok (.iload_n 1, 1) := by decide +kernel
theorem dX6_join_5 : decode cX6_join 5 = .ok (.iload_n 2, 1) := by decide +kernel
theorem dX6_join_6 : decode cX6_join 6 = .ok (.iload_n 3, 1) := by decide +kernel
theorem dX6_join_7 : decode cX6_join 7 = .ok (.invokevirtual 196, 3) := by decide +kernel
theorem dX6_join_10 : decode cX6_join 10 = .ok (.istore 4, 2) := by decide +kernel
theorem dX6_join_12 : decode cX6_join 12 = .ok (.iload 4, 2) := by decide +kernel
theorem dX6_join_14 : decode cX6_join 14 = .ok (.iconst (-1), 1) := by decide +kernel
theorem dX6_join_15 : decode cX6_join 15 = .ok (.if_icmp .ne 13, 3) := by decide +kernel
theorem dX6_join_18 : decode cX6_join 18 = .ok (.new 75, 3) := by decide +kernel
theorem dX6_join_21 : decode cX6_join 21 = .ok (.dup, 1) := by decide +kernel
theorem dX6_join_22 : decode cX6_join 22 = .ok (.ldc 200, 2) := by decide +kernel
theorem dX6_join_24 : decode cX6_join 24 = .ok (.invokespecial 79, 3) := by decide +kernel
theorem dX6_join_27 : decode cX6_join 27 = .ok (.athrow, 1) := by decide +kernel
theorem dX6_join_28 : decode cX6_join 28 = .ok (.iload 4, 2) := by decide +kernel
theorem dX6_join_30 : decode cX6_join 30 = .ok (.bipush (-2), 2) := by decide +kernel
theorem dX6_join_32 : decode cX6_join 32 = .ok (.if_icmp .ne 13, 3) := by decide +kernel
theorem dX6_join_35 : decode cX6_join 35 = .ok (.new 101, 3) := by decide +kernel
theorem dX6_join_38 : decode cX6_join 38 = .ok (.dup, 1) := by decide +kernel
theorem dX6_join_39 : decode cX6_join 39 = .ok (.ldc 170, 2) := by decide +kernel
theorem dX6_join_41 : decode cX6_join 41 = .ok (.invokespecial 105, 3) := by decide +kernel
theorem dX6_join_44 : decode cX6_join 44 = .ok (.athrow, 1) := by decide +kernel
theorem dX6_join_45 : decode cX6_join 45 = .ok (.iload 4, 2) := by decide +kernel
theorem dX6_join_47 : decode cX6_join 47 = .ok (.ifCond .eq 19, 3) := by decide +kernel
theorem dX6_join_50 : decode cX6_join 50 = .ok (.aload_n 0, 1) := by decide +kernel
theorem dX6_join_51 : decode cX6_join 51 = .ok (.iload 4, 2) := by decide +kernel
theorem dX6_join_53 : decode cX6_join 53 = .ok (.putfield 44, 3) := by decide +kernel
theorem dX6_join_56 : decode cX6_join 56 = .ok (.new 146, 3) := by decide +kernel
theorem dX6_join_59 : decode cX6_join 59 = .ok (.dup, 1) := by decide +kernel
theorem dX6_join_60 : decode cX6_join 60 = .ok (.ldc 202, 2) := by decide +kernel
theorem dX6_join_62 : decode cX6_join 62 = .ok (.invokespecial 150, 3) := by decide +kernel
theorem dX6_join_65 : decode cX6_join 65 = .ok (.athrow, 1) := by decide +kernel
theorem dX6_join_66 : decode cX6_join 66 = .ok (.aload_n 0, 1) := by decide +kernel
theorem dX6_join_67 : decode cX6_join 67 = .ok (.getfield 29, 3) := by decide +kernel
theorem dX6_join_70 : decode cX6_join 70 = .ok (.aload_n 0, 1) := by decide +kernel
theorem dX6_join_71 : decode cX6_join 71 = .ok (.getfield 12, 3) := by decide +kernel
theorem dX6_join_74 : decode cX6_join 74 = .ok (.invokevirtual 58, 3) := by decide +kernel
theorem dX6_join_77 : decode cX6_join 77 = .ok (.aload_n 0, 1) := by decide +kernel
theorem dX6_join_78 : decode cX6_join 78 = .ok (.getfield 12, 3) := by decide +kernel
theorem dX6_join_81 : decode cX6_join 81 = .ok (.aload_n 0, 1) := by decide +kernel
theorem dX6_join_82 : decode cX6_join 82 = .ok (.getfield 12, 3) := by decide +kernel
theorem dX6_join_85 : decode cX6_join 85 = .ok (.getfield 187, 3) := by decide +kernel
theorem dX6_join_88 : decode cX6_join 88 = .ok (.iload_n 1, 1) := by decide +kernel
theorem dX6_join_89 : decode cX6_join 89 = .ok (.aaload, 1) := by decide +kernel
theorem dX6_join_90 : decode cX6_join 90 = .ok (.iload_n 2, 1) := by decide +kernel
theorem dX6_join_91 : decode cX6_join 91 = .ok (.iconst 5, 1) := by decide +kernel
theorem dX6_join_92 : decode cX6_join 92 = .ok (.imul, 1) := by decide +kernel
theorem dX6_join_93 : decode cX6_join 93 = .ok (.iload_n 3, 1) := by decide +kernel
theorem dX6_join_94 : decode cX6_join 94 = .ok (.iadd, 1) := by decide +kernel
theorem dX6_join_95 : decode cX6_join 95 = .ok (.invokevirtual 204, 3) := by decide +kernel
theorem dX6_join_98 : decode cX6_join 98 = .ok (.aload_n 0, 1) := by decide +kernel
theorem dX6_join_99 : decode cX6_join 99 = .ok (.getfield 12, 3) := by decide +kernel
theorem dX6_join_102 : decode cX6_join 102 = .ok (.getfield 187, 3) := by decide +kernel
theorem dX6_join_105 : decode cX6_join 105 = .ok (.iload_n 1, 1) := by decide +kernel
theorem dX6_join_106 : decode cX6_join 106 = .ok (.aaload, 1) := by decide +kernel
theorem dX6_join_107 : decode cX6_join 107 = .ok (.getfield 208, 3) := by decide +kernel
theorem dX6_join_110 : decode cX6_join 110 = .ok (.ireturn, 1) := by decide +kernel
theorem dX6_start_0 : decode cX6_start 0 = .ok (.aload_n 0, 1) := by decide +kernel
theorem dX6_start_1 : decode cX6_start 1 = .ok (.getfield 12, 3) := by decide +kernel
theorem dX6_start_4 : decode cX6_start 4 = .ok (.iload_n 1, 1) := by decide +kernel
theorem dX6_start_5 : decode cX6_start 5 = .ok (.invokevirtual 211, 3) := by decide +kernel
theorem dX6_start_8 : decode cX6_start 8 = .ok (.istore_n 2, 1) := by decide +kernel
theorem dX6_start_9 : decode cX6_start 9 = .ok (.iload_n 2, 1) := by decide +kernel
theorem dX6_start_10 : decode cX6_start 10 = .ok (.iconst (-1), 1) := by decide +kernel
theorem dX6_start_11 : decode cX6_start 11 = .ok (.if_icmp .ne 13, 3) := by decide +kernel
theorem dX6_start_14 : decode cX6_start 14 = .ok (.new 75, 3) := by decide +kernel
theorem dX6_start_17 : decode cX6_start 17 = .ok (.dup, 1) := by decide +kernel
theorem dX6_start_18 : decode cX6_start 18 = .ok (.ldc 214, 2) := by decide +kernel
theorem dX6_start_20 : decode cX6_start 20 = .ok (.invokespecial 79, 3) := by decide +kernel
theorem dX6_start_23 : decode cX6_start 23 = .ok (.athrow, 1) := by decide +kernel
theorem dX6_start_24 : decode cX6_start 24 = .ok (.iload_n 2, 1) := by decide +kernel
theorem dX6_start_25 : decode cX6_start 25 = .ok (.ifCond .eq 18, 3) := by decide +kernel
theorem dX6_start_28 : decode cX6_start 28 = .ok (.aload_n 0, 1) := by decide +kernel
theorem dX6_start_29 : decode cX6_start 29 = .ok (.iload_n 2, 1) := by decide +kernel
theorem dX6_start_30 : decode cX6_start 30 = .ok (.putfield 44, 3) := by decide +kernel
theorem dX6_start_33 : decode cX6_start 33 = .ok (.new 146, 3) := by decide +kernel
theorem dX6_start_36 : decode cX6_start 36 = .ok (.dup, 1) := by decide +kernel
theorem dX6_start_37 : decode cX6_start 37 = .ok (.ldc 216, 2) := by decide +kernel
theorem dX6_start_39 : decode cX6_start 39 = .ok (.invokespecial 150, 3) := by decide +kernel
theorem dX6_start_42 : decode cX6_start 42 = .ok (.athrow, 1) := by decide +kernel
theorem dX6_start_43 : decode cX6_start 43 = .ok (.aload_n 0, 1) := by decide +kernel
theorem dX6_start_44 : decode cX6_start 44 = .ok (.getfield 29, 3) := by decide +kernel
theorem dX6_start_47 : decode cX6_start 47 = .ok (.aload_n 0, 1) := by decide +kernel
theorem dX6_start_48 : decode cX6_start 48 = .ok (.getfield 12, 3) := by decide +kernel
theorem dX6_start_51 : decode cX6_start 51 = .ok (.invokevirtual 58, 3) := by decide +kernel
theorem dX6_start_54 : decode cX6_start 54 = .ok (.aload_n 0, 1) := by decide +kernel
theorem dX6_start_55 : decode cX6_start 55 = .ok (.getfield 12, 3) := by decide +kernel
theorem dX6_start_58 : decode cX6_start 58 = .ok (.aload_n 0, 1) := by decide +kernel
theorem dX6_start_59 : decode cX6_start 59 = .ok (.getfield 12, 3) := by decide +kernel
theorem dX6_start_62 : decode cX6_start 62 = .ok (.getfield 187, 3) := by decide +kernel
theorem dX6_start_65 : decode cX6_start 65 = .ok (.iload_n 1, 1) := by decide +kernel
theorem dX6_start_66 : decode cX6_start 66 = .ok (.aaload, 1) := by decide +kernel
theorem dX6_start_67 : decode cX6_start 67 = .ok (.invokevirtual 218, 3) := by decide +kernel
theorem dX6_start_70 : decode cX6_start 70 = .ok (.aload_n 0, 1) := by decide +kernel
theorem dX6_start_71 : decode cX6_start 71 = .ok (.getfield 12, 3) := by decide +kernel
theorem dX6_start_74 : decode cX6_start 74 = .ok (.getfield 187, 3) := by decide +kernel
theorem dX6_start_77 : decode cX6_start 77 = .ok (.iload_n 1, 1) := by decide +kernel
theorem dX6_start_78 : decode cX6_start 78 = .ok (.aaload, 1) := by decide +kernel
theorem dX6_start_79 : decode cX6_start 79 = .ok (.getfield 208, 3) := by decide +kernel
theorem dX6_start_82 : decode cX6_start 82 = .ok (.ireturn, 1) := by decide +kernel
theorem dX6_roll_0 : decode cX6_roll 0 = .ok (.aload_n 0, 1) := by decide +kernel
theorem dX6_roll_1 : decode cX6_roll 1 = .ok (.getfield 12, 3) := by decide +kernel
theorem dX6_roll_4 : decode cX6_roll 4 = .ok (.iload_n 1, 1) := by decide +kernel
theorem dX6_roll_5 : decode cX6_roll 5 = .ok (.invokevirtual 222, 3) := by decide +kernel
theorem dX6_roll_8 : decode cX6_roll 8 = .ok (.istore_n 2, 1) := by decide +kernel
theorem dX6_roll_9 : decode cX6_roll 9 = .ok (.iload_n 2, 1) := by decide +kernel
theorem dX6_roll_10 : decode cX6_roll 10 = .ok (.iconst (-1), 1) := by decide +kernel
theorem dX6_roll_11 : decode cX6_roll 11 = .ok (.if_icmp .ne 13, 3) := by decide +kernel
theorem dX6_roll_14 : decode cX6_roll 14 = .ok (.new 75, 3) := by decide +kernel
theorem dX6_roll_17 : decode cX6_roll 17 = .ok (.dup, 1) := by decide +kernel
theorem dX6_roll_18 : decode cX6_roll 18 = .ok (.ldc 214, 2) := by decide +kernel
theorem dX6_roll_20 : decode cX6_roll 20 = .ok (.invokespecial 79, 3) := by decide +kernel
theorem dX6_roll_23 : decode cX6_roll 23 = .ok (.athrow, 1) := by decide +kernel
theorem dX6_roll_24 : decode cX6_roll 24 = .ok (.iload_n 2, 1) := by decide +kernel
theorem dX6_roll_25 : decode cX6_roll 25 = .ok (.ifCond .eq 18, 3) := by decide +kernel
theorem dX6_roll_28 : decode cX6_roll 28 = .ok (.aload_n 0, 1) := by decide +kernel
theorem dX6_roll_29 : decode cX6_roll 29 = .ok (.iload_n 2, 1) := by decide +kernel
theorem dX6_roll_30 : decode cX6_roll 30 = .ok (.putfield 44, 3) := by decide +kernel
theorem dX6_roll_33 : decode cX6_roll 33 = .ok (.new 146, 3) := by decide +kernel
theorem dX6_roll_36 : decode cX6_roll 36 = .ok (.dup, 1) := by decide +kernel
theorem dX6_roll_37 : decode cX6_roll 37 = .ok (.ldc 225, 2) := by decide +kernel
theorem dX6_roll_39 : decode cX6_roll 39 = .ok (.invokespecial 150, 3) := by decide +kernel
theorem dX6_roll_42 : decode cX6_roll 42 = .ok (.athrow, 1) := by decide +kernel
theorem dX6_roll_43 : decode cX6_roll 43 = .ok (.aload_n 0, 1) := by decide +kernel
theorem dX6_roll_44 : decode cX6_roll 44 = .ok (.getfield 29, 3) := by decide +kernel
theorem dX6_roll_47 : decode cX6_roll 47 = .ok (.aload_n 0, 1) := by decide +kernel
theorem dX6_roll_48 : decode cX6_roll 48 = .ok (.getfield 12, 3) := by decide +kernel
theorem dX6_roll_51 : decode cX6_roll 51 = .ok (.invokevirtual 58, 3) := by decide +kernel
theorem dX6_roll_54 : decode cX6_roll 54 = .ok (.aload_n 0, 1) := by decide +kernel
theorem dX6_roll_55 : decode cX6_roll 55 = .ok (.getfield 12, 3) := by decide +kernel
theorem dX6_roll_58 : decode cX6_roll 58 = .ok (.aload_n 0, 1) := by decide +kernel
theorem dX6_roll_59 : decode cX6_roll 59 = .ok (.getfield 12, 3) := by decide +kernel
theorem dX6_roll_62 : decode cX6_roll 62 = .ok (.getfield 187, 3) := by decide +kernel
theorem dX6_roll_65 : decode cX6_roll 65 = .ok (.iload_n 1, 1) := by decide +kernel
theorem dX6_roll_66 : decode cX6_roll 66 = .ok (.aaload, 1) := by decide +kernel
theorem dX6_roll_67 : decode cX6_roll 67 = .ok (.invokevirtual 218, 3) := by decide +kernel
theorem dX6_roll_70 : decode cX6_roll 70 = .ok (.aload_n 0, 1) := by decide +kernel
theorem dX6_roll_71 : decode cX6_roll 71 = .ok (.getfield 12, 3) := by decide +kernel
theorem dX6_roll_74 : decode cX6_roll 74 = .ok (.getfield 187, 3) := by decide +kernel
theorem dX6_roll_77 : decode cX6_roll 77 = .ok (.iload_n 1, 1) := by decide +kernel
theorem dX6_roll_78 : decode cX6_roll 78 = .ok (.aaload, 1) := by decide +kernel
theorem dX6_roll_79 : decode cX6_roll 79 = .ok (.invokevirtual 227, 3) := by decide +kernel
theorem dX6_roll_82 : decode cX6_roll 82 = .ok (.ireturn, 1) := by decide +kernel
theorem dX6_why_0 : decode cX6_why 0 = .ok (.aload_n 0, 1) := by decide +kernel
theorem dX6_why_1 : decode cX6_why 1 = .ok (.getfield 12, 3) := by decide +kernel
theorem dX6_why_4 : decode cX6_why 4 = .ok (.iload_n 1, 1) := by decide +kernel
theorem dX6_why_5 : decode cX6_why 5 = .ok (.invokevirtual 222, 3) := by decide +kernel
theorem dX6_why_8 : decode cX6_why 8 = .ok (.istore_n 3, 1) := by decide +kernel
theorem dX6_why_9 : decode cX6_why 9 = .ok (.iload_n 3, 1) := by decide +kernel
theorem dX6_why_10 : decode cX6_why 10 = .ok (.iconst (-1), 1) := by decide +kernel
theorem dX6_why_11 : decode cX6_why 11 = .ok (.if_icmp .ne 13, 3) := by decide +kernel
theorem dX6_why_14 : decode cX6_why 14 = .ok (.new 75, 3) := by decide +kernel
theorem dX6_why_17 : decode cX6_why 17 = .ok (.dup, 1) := by decide +kernel
theorem dX6_why_18 : decode cX6_why 18 = .ok (.ldc 214, 2) := by decide +kernel
theorem dX6_why_20 : decode cX6_why 20 = .ok (.invokespecial 79, 3) := by decide +kernel
theorem dX6_why_23 : decode cX6_why 23 = .ok (.athrow, 1) := by decide +kernel
theorem dX6_why_24 : decode cX6_why 24 = .ok (.iload_n 2, 1) := by decide +kernel
theorem dX6_why_25 : decode cX6_why 25 = .ok (.ifCond .eq 10, 3) := by decide +kernel
theorem dX6_why_28 : decode cX6_why 28 = .ok (.iload_n 3, 1) := by decide +kernel
theorem dX6_why_29 : decode cX6_why 29 = .ok (.bipush 16, 2) := by decide +kernel
theorem dX6_why_31 : decode cX6_why 31 = .ok (.irem, 1) := by decide +kernel
theorem dX6_why_32 : decode cX6_why 32 = .ok (.goto 7, 3) := by decide +kernel
theorem dX6_why_35 : decode cX6_why 35 = .ok (.iload_n 3, 1) := by decide +kernel
theorem dX6_why_36 : decode cX6_why 36 = .ok (.bipush 16, 2) := by decide +kernel
theorem dX6_why_38 : decode cX6_why 38 = .ok (.idiv, 1) := by decide +kernel
theorem dX6_why_39 : decode cX6_why 39 = .ok (.ireturn, 1) := by decide +kernel
theorem dX6_convoyOf_0 : decode cX6_convoyOf 0 = .ok (.aload_n 0, 1) := by decide +kernel
theorem dX6_convoyOf_1 : decode cX6_convoyOf 1 = .ok (.getfield 12, 3) := by decide +kernel
theorem dX6_convoyOf_4 : decode cX6_convoyOf 4 = .ok (.iload_n 1, 1) := by decide +kernel
theorem dX6_convoyOf_5 : decode cX6_convoyOf 5 = .ok (.invokevirtual 231, 3) := by decide +kernel
theorem dX6_convoyOf_8 : decode cX6_convoyOf 8 = .ok (.ifCond .ne 13, 3) := by decide +kernel
theorem dX6_convoyOf_11 : decode cX6_convoyOf 11 = .ok (.new 75, 3) := by decide +kernel
theorem dX6_convoyOf_14 : decode cX6_convoyOf 14 = .ok (.dup, 1) := by decide +kernel
theorem dX6_convoyOf_15 : decode cX6_convoyOf 15 = .ok (.ldc 214, 2) := by decide +kernel
theorem dX6_convoyOf_17 : decode cX6_convoyOf 17 = .ok (.invokespecial 79, 3) := by decide +kernel
theorem dX6_convoyOf_20 : decode cX6_convoyOf 20 = .ok (.athrow, 1) := by decide +kernel
theorem dX6_convoyOf_21 : decode cX6_convoyOf 21 = .ok (.aload_n 0, 1) := by decide +kernel
theorem dX6_convoyOf_22 : decode cX6_convoyOf 22 = .ok (.getfield 12, 3) := by decide +kernel
theorem dX6_convoyOf_25 : decode cX6_convoyOf 25 = .ok (.getfield 187, 3) := by decide +kernel
theorem dX6_convoyOf_28 : decode cX6_convoyOf 28 = .ok (.iload_n 1, 1) := by decide +kernel
theorem dX6_convoyOf_29 : decode cX6_convoyOf 29 = .ok (.aaload, 1) := by decide +kernel
theorem dX6_convoyOf_30 : decode cX6_convoyOf 30 = .ok (.astore_n 3, 1) := by decide +kernel
theorem dX6_convoyOf_31 : decode cX6_convoyOf 31 = .ok (.iload_n 2, 1) := by decide +kernel
theorem dX6_convoyOf_32 : decode cX6_convoyOf 32 = .ok (.tableswitch 78 0 5 #[40, 45, 50, 55, 60, 65], 40) := by decide +kernel
theorem dX6_convoyOf_72 : decode cX6_convoyOf 72 = .ok (.aload_n 3, 1) := by decide +kernel
theorem dX6_convoyOf_73 : decode cX6_convoyOf 73 = .ok (.getfield 191, 3) := by decide +kernel
theorem dX6_convoyOf_76 : decode cX6_convoyOf 76 = .ok (.ireturn, 1) := by decide +kernel
theorem dX6_convoyOf_77 : decode cX6_convoyOf 77 = .ok (.aload_n 3, 1) := by decide +kernel
theorem dX6_convoyOf_78 : decode cX6_convoyOf 78 = .ok (.getfield 208, 3) := by decide +kernel
theorem dX6_convoyOf_81 : decode cX6_convoyOf 81 = .ok (.ireturn, 1) := by decide +kernel
theorem dX6_convoyOf_82 : decode cX6_convoyOf 82 = .ok (.aload_n 3, 1) := by decide +kernel
theorem dX6_convoyOf_83 : decode cX6_convoyOf 83 = .ok (.getfield 234, 3) := by decide +kernel
theorem dX6_convoyOf_86 : decode cX6_convoyOf 86 = .ok (.ireturn, 1) := by decide +kernel
theorem dX6_convoyOf_87 : decode cX6_convoyOf 87 = .ok (.aload_n 3, 1) := by decide +kernel
theorem dX6_convoyOf_88 : decode cX6_convoyOf 88 = .ok (.invokevirtual 227, 3) := by decide +kernel
theorem dX6_convoyOf_91 : decode cX6_convoyOf 91 = .ok (.ireturn, 1) := by decide +kernel
theorem dX6_convoyOf_92 : decode cX6_convoyOf 92 = .ok (.aload_n 3, 1) := by decide +kernel
theorem dX6_convoyOf_93 : decode cX6_convoyOf 93 = .ok (.invokevirtual 237, 3) := by decide +kernel
theorem dX6_convoyOf_96 : decode cX6_convoyOf 96 = .ok (.ireturn, 1) := by decide +kernel
theorem dX6_convoyOf_97 : decode cX6_convoyOf 97 = .ok (.aload_n 3, 1) := by decide +kernel
theorem dX6_convoyOf_98 : decode cX6_convoyOf 98 = .ok (.invokevirtual 240, 3) := by decide +kernel
theorem dX6_convoyOf_101 : decode cX6_convoyOf 101 = .ok (.ifCond .eq 7, 3) := by decide +kernel
theorem dX6_convoyOf_104 : decode cX6_convoyOf 104 = .ok (.iconst 1, 1) := by decide +kernel
theorem dX6_convoyOf_105 : decode cX6_convoyOf 105 = .ok (.goto 4, 3) := by decide +kernel
theorem dX6_convoyOf_108 : decode cX6_convoyOf 108 = .ok (.iconst 0, 1) := by decide +kernel
theorem dX6_convoyOf_109 : decode cX6_convoyOf 109 = .ok (.ireturn, 1) := by decide +kernel
theorem dX6_convoyOf_110 : decode cX6_convoyOf 110 = .ok (.new 51, 3) := by decide +kernel
theorem dX6_convoyOf_113 : decode cX6_convoyOf 113 = .ok (.dup, 1) := by decide +kernel
theorem dX6_convoyOf_114 : decode cX6_convoyOf 114 = .ok (.ldc 244, 2) := by decide +kernel
theorem dX6_convoyOf_116 : decode cX6_convoyOf 116 = .ok (.invokespecial 55, 3) := by decide +kernel
theorem dX6_convoyOf_119 : decode cX6_convoyOf 119 = .ok (.athrow, 1) := by decide +kernel
theorem dX6_truckOf_0 : decode cX6_truckOf 0 = .ok (.aload_n 0, 1) := by decide +kernel
theorem dX6_truckOf_1 : decode cX6_truckOf 1 = .ok (.getfield 12, 3) := by decide +kernel
theorem dX6_truckOf_4 : decode cX6_truckOf 4 = .ok (.iload_n 1, 1) := by decide +kernel
theorem dX6_truckOf_5 : decode cX6_truckOf 5 = .ok (.iload_n 2, 1) := by decide +kernel
theorem dX6_truckOf_6 : decode cX6_truckOf 6 = .ok (.invokevirtual 246, 3) := by decide +kernel
theorem dX6_truckOf_9 : decode cX6_truckOf 9 = .ok (.astore 4, 2) := by decide +kernel
theorem dX6_truckOf_11 : decode cX6_truckOf 11 = .ok (.aload 4, 2) := by decide +kernel
theorem dX6_truckOf_13 : decode cX6_truckOf 13 = .ok (.ifnonnull 13, 3) := by decide +kernel
theorem dX6_truckOf_16 : decode cX6_truckOf 16 = .ok (.new 75, 3) := by decide +kernel
theorem dX6_truckOf_19 : decode cX6_truckOf 19 = .ok (.dup, 1) := by decide +kernel
theorem dX6_truckOf_20 : decode cX6_truckOf 20 = .ok (.ldc 250, 2) := by decide +kernel
theorem dX6_truckOf_22 : decode cX6_truckOf 22 = .ok (.invokespecial 79, 3) := by decide +kernel
theorem dX6_truckOf_25 : decode cX6_truckOf 25 = .ok (.athrow, 1) := by decide +kernel
theorem dX6_truckOf_26 : decode cX6_truckOf 26 = .ok (.iload_n 3, 1) := by decide +kernel
theorem dX6_truckOf_27 : decode cX6_truckOf 27 = .ok (.tableswitch 61 0 3 #[29, 35, 41, 47], 29) := by decide +kernel
theorem dX6_truckOf_56 : decode cX6_truckOf 56 = .ok (.aload 4, 2) := by decide +kernel
theorem dX6_truckOf_58 : decode cX6_truckOf 58 = .ok (.getfield 252, 3) := by decide +kernel
theorem dX6_truckOf_61 : decode cX6_truckOf 61 = .ok (.ireturn, 1) := by decide +kernel
theorem dX6_truckOf_62 : decode cX6_truckOf 62 = .ok (.aload 4, 2) := by decide +kernel
theorem dX6_truckOf_64 : decode cX6_truckOf 64 = .ok (.getfield 174, 3) := by decide +kernel
theorem dX6_truckOf_67 : decode cX6_truckOf 67 = .ok (.ireturn, 1) := by decide +kernel
theorem dX6_truckOf_68 : decode cX6_truckOf 68 = .ok (.aload 4, 2) := by decide +kernel
theorem dX6_truckOf_70 : decode cX6_truckOf 70 = .ok (.getfield 177, 3) := by decide +kernel
theorem dX6_truckOf_73 : decode cX6_truckOf 73 = .ok (.ireturn, 1) := by decide +kernel
theorem dX6_truckOf_74 : decode cX6_truckOf 74 = .ok (.aload_n 0, 1) := by decide +kernel
theorem dX6_truckOf_75 : decode cX6_truckOf 75 = .ok (.getfield 12, 3) := by decide +kernel
theorem dX6_truckOf_78 : decode cX6_truckOf 78 = .ok (.getfield 187, 3) := by decide +kernel
theorem dX6_truckOf_81 : decode cX6_truckOf 81 = .ok (.iload_n 1, 1) := by decide +kernel
theorem dX6_truckOf_82 : decode cX6_truckOf 82 = .ok (.aaload, 1) := by decide +kernel
theorem dX6_truckOf_83 : decode cX6_truckOf 83 = .ok (.iload_n 2, 1) := by decide +kernel
theorem dX6_truckOf_84 : decode cX6_truckOf 84 = .ok (.invokevirtual 255, 3) := by decide +kernel
theorem dX6_truckOf_87 : decode cX6_truckOf 87 = .ok (.ireturn, 1) := by decide +kernel
theorem dX6_truckOf_88 : decode cX6_truckOf 88 = .ok (.new 51, 3) := by decide +kernel
theorem dX6_truckOf_91 : decode cX6_truckOf 91 = .ok (.dup, 1) := by decide +kernel
theorem dX6_truckOf_92 : decode cX6_truckOf 92 = .ok (.ldc 172, 2) := by decide +kernel
theorem dX6_truckOf_94 : decode cX6_truckOf 94 = .ok (.invokespecial 55, 3) := by decide +kernel
theorem dX6_truckOf_97 : decode cX6_truckOf 97 = .ok (.athrow, 1) := by decide +kernel
theorem dX6_load_0 : decode cX6_load 0 = .ok (.aload_n 0, 1) := by decide +kernel
theorem dX6_load_1 : decode cX6_load 1 = .ok (.getfield 12, 3) := by decide +kernel
theorem dX6_load_4 : decode cX6_load 4 = .ok (.iload_n 1, 1) := by decide +kernel
theorem dX6_load_5 : decode cX6_load 5 = .ok (.iload_n 2, 1) := by decide +kernel
theorem dX6_load_6 : decode cX6_load 6 = .ok (.invokevirtual 246, 3) := by decide +kernel
theorem dX6_load_9 : decode cX6_load 9 = .ok (.astore_n 3, 1) := by decide +kernel
theorem dX6_load_10 : decode cX6_load 10 = .ok (.aload_n 3, 1) := by decide +kernel
theorem dX6_load_11 : decode cX6_load 11 = .ok (.ifnonnull 13, 3) := by decide +kernel
theorem dX6_load_14 : decode cX6_load 14 = .ok (.new 75, 3) := by decide +kernel
theorem dX6_load_17 : decode cX6_load 17 = .ok (.dup, 1) := by decide +kernel
theorem dX6_load_18 : decode cX6_load 18 = .ok (.ldc 250, 2) := by decide +kernel
theorem dX6_load_20 : decode cX6_load 20 = .ok (.invokespecial 79, 3) := by decide +kernel
theorem dX6_load_23 : decode cX6_load 23 = .ok (.athrow, 1) := by decide +kernel
theorem dX6_load_24 : decode cX6_load 24 = .ok (.aload_n 3, 1) := by decide +kernel
theorem dX6_load_25 : decode cX6_load 25 = .ok (.invokevirtual 258, 3) := by decide +kernel
theorem dX6_load_28 : decode cX6_load 28 = .ok (.freturn, 1) := by decide +kernel
theorem dX6_at_0 : decode cX6_at 0 = .ok (.iload_n 1, 1) := by decide +kernel
theorem dX6_at_1 : decode cX6_at 1 = .ok (.invokestatic 72, 3) := by decide +kernel
theorem dX6_at_4 : decode cX6_at 4 = .ok (.ifCond .ne 13, 3) := by decide +kernel
theorem dX6_at_7 : decode cX6_at 7 = .ok (.new 75, 3) := by decide +kernel
theorem dX6_at_10 : decode cX6_at 10 = .ok (.dup, 1) := by decide +kernel
theorem dX6_at_11 : decode cX6_at 11 = .ok (.ldc 77, 2) := by decide +kernel
theorem dX6_at_13 : decode cX6_at 13 = .ok (.invokespecial 79, 3) := by decide +kernel
theorem dX6_at_16 : decode cX6_at 16 = .ok (.athrow, 1) := by decide +kernel
theorem dX6_at_17 : decode cX6_at 17 = .ok (.aload_n 0, 1) := by decide +kernel
theorem dX6_at_18 : decode cX6_at 18 = .ok (.getfield 12, 3) := by decide +kernel
theorem dX6_at_21 : decode cX6_at 21 = .ok (.iload_n 1, 1) := by decide +kernel
theorem dX6_at_22 : decode cX6_at 22 = .ok (.invokevirtual 128, 3) := by decide +kernel
theorem dX6_at_25 : decode cX6_at 25 = .ok (.istore_n 2, 1) := by decide +kernel
theorem dX6_at_26 : decode cX6_at 26 = .ok (.iload_n 2, 1) := by decide +kernel
theorem dX6_at_27 : decode cX6_at 27 = .ok (.ifCond .ge 14, 3) := by decide +kernel
theorem dX6_at_30 : decode cX6_at 30 = .ok (.new 101, 3) := by decide +kernel
theorem dX6_at_33 : decode cX6_at 33 = .ok (.dup, 1) := by decide +kernel
theorem dX6_at_34 : decode cX6_at 34 = .ok (.ldc_w 262, 3) := by decide +kernel
theorem dX6_at_37 : decode cX6_at 37 = .ok (.invokespecial 105, 3) := by decide +kernel
theorem dX6_at_40 : decode cX6_at 40 = .ok (.athrow, 1) := by decide +kernel
theorem dX6_at_41 : decode cX6_at 41 = .ok (.bipush 10, 2) := by decide +kernel
theorem dX6_at_43 : decode cX6_at 43 = .ok (.iload_n 2, 1) := by decide +kernel
theorem dX6_at_44 : decode cX6_at 44 = .ok (.imul, 1) := by decide +kernel
theorem dX6_at_45 : decode cX6_at 45 = .ok (.aload_n 0, 1) := by decide +kernel
theorem dX6_at_46 : decode cX6_at 46 = .ok (.getfield 12, 3) := by decide +kernel
theorem dX6_at_49 : decode cX6_at 49 = .ok (.getfield 187, 3) := by decide +kernel
theorem dX6_at_52 : decode cX6_at 52 = .ok (.iload_n 2, 1) := by decide +kernel
theorem dX6_at_53 : decode cX6_at 53 = .ok (.aaload, 1) := by decide +kernel
theorem dX6_at_54 : decode cX6_at 54 = .ok (.iload_n 1, 1) := by decide +kernel
theorem dX6_at_55 : decode cX6_at 55 = .ok (.invokevirtual 264, 3) := by decide +kernel
theorem dX6_at_58 : decode cX6_at 58 = .ok (.iadd, 1) := by decide +kernel
theorem dX6_at_59 : decode cX6_at 59 = .ok (.ireturn, 1) := by decide +kernel
theorem dX6_rolls_0 : decode cX6_rolls 0 = .ok (.aload_n 0, 1) := by decide +kernel
theorem dX6_rolls_1 : decode cX6_rolls 1 = .ok (.getfield 12, 3) := by decide +kernel
theorem dX6_rolls_4 : decode cX6_rolls 4 = .ok (.iload_n 1, 1) := by decide +kernel
theorem dX6_rolls_5 : decode cX6_rolls 5 = .ok (.invokevirtual 231, 3) := by decide +kernel
theorem dX6_rolls_8 : decode cX6_rolls 8 = .ok (.ifCond .ne 13, 3) := by decide +kernel
theorem dX6_rolls_11 : decode cX6_rolls 11 = .ok (.new 75, 3) := by decide +kernel
theorem dX6_rolls_14 : decode cX6_rolls 14 = .ok (.dup, 1) := by decide +kernel
theorem dX6_rolls_15 : decode cX6_rolls 15 = .ok (.ldc 214, 2) := by decide +kernel
theorem dX6_rolls_17 : decode cX6_rolls 17 = .ok (.invokespecial 79, 3) := by decide +kernel
theorem dX6_rolls_20 : decode cX6_rolls 20 = .ok (.athrow, 1) := by decide +kernel
theorem dX6_rolls_21 : decode cX6_rolls 21 = .ok (.aload_n 0, 1) := by decide +kernel
theorem dX6_rolls_22 : decode cX6_rolls 22 = .ok (.getfield 12, 3) := by decide +kernel
theorem dX6_rolls_25 : decode cX6_rolls 25 = .ok (.iload_n 1, 1) := by decide +kernel
theorem dX6_rolls_26 : decode cX6_rolls 26 = .ok (.invokevirtual 267, 3) := by decide +kernel
theorem dX6_rolls_29 : decode cX6_rolls 29 = .ok (.ireturn, 1) := by decide +kernel
theorem dX6_rollsAgain_0 : decode cX6_rollsAgain 0 = .ok (.aload_n 0, 1) := by decide +kernel
theorem dX6_rollsAgain_1 : decode cX6_rollsAgain 1 = .ok (.getfield 12, 3) := by decide +kernel
theorem dX6_rollsAgain_4 : decode cX6_rollsAgain 4 = .ok (.iload_n 1, 1) := by decide +kernel
theorem dX6_rollsAgain_5 : decode cX6_rollsAgain 5 = .ok (.invokevirtual 231, 3) := by decide +kernel
theorem dX6_rollsAgain_8 : decode cX6_rollsAgain 8 = .ok (.ifCond .ne 13, 3) := by decide +kernel
theorem dX6_rollsAgain_11 : decode cX6_rollsAgain 11 = .ok (.new 75, 3) := by decide +kernel
theorem dX6_rollsAgain_14 : decode cX6_rollsAgain 14 = .ok (.dup, 1) := by decide +kernel
theorem dX6_rollsAgain_15 : decode cX6_rollsAgain 15 = .ok (.ldc 214, 2) := by decide +kernel
theorem dX6_rollsAgain_17 : decode cX6_rollsAgain 17 = .ok (.invokespecial 79, 3) := by decide +kernel
theorem dX6_rollsAgain_20 : decode cX6_rollsAgain 20 = .ok (.athrow, 1) := by decide +kernel
theorem dX6_rollsAgain_21 : decode cX6_rollsAgain 21 = .ok (.aload_n 0, 1) := by decide +kernel
theorem dX6_rollsAgain_22 : decode cX6_rollsAgain 22 = .ok (.getfield 16, 3) := by decide +kernel
theorem dX6_rollsAgain_25 : decode cX6_rollsAgain 25 = .ok (.aload_n 0, 1) := by decide +kernel
theorem dX6_rollsAgain_26 : decode cX6_rollsAgain 26 = .ok (.getfield 12, 3) := by decide +kernel
theorem dX6_rollsAgain_29 : decode cX6_rollsAgain 29 = .ok (.invokevirtual 270, 3) := by decide +kernel
theorem dX6_rollsAgain_32 : decode cX6_rollsAgain 32 = .ok (.iconst 0, 1) := by decide +kernel
theorem dX6_rollsAgain_33 : decode cX6_rollsAgain 33 = .ok (.istore_n 2, 1) := by decide +kernel
theorem dX6_rollsAgain_34 : decode cX6_rollsAgain 34 = .ok (.iload_n 2, 1) := by decide +kernel
theorem dX6_rollsAgain_35 : decode cX6_rollsAgain 35 = .ok (.bipush 24, 2) := by decide +kernel
theorem dX6_rollsAgain_37 : decode cX6_rollsAgain 37 = .ok (.if_icmp .ge 36, 3) := by decide +kernel
theorem dX6_rollsAgain_40 : decode cX6_rollsAgain 40 = .ok (.aload_n 0, 1) := by decide +kernel
theorem dX6_rollsAgain_41 : decode cX6_rollsAgain 41 = .ok (.getfield 16, 3) := by decide +kernel
theorem dX6_rollsAgain_44 : decode cX6_rollsAgain 44 = .ok (.iload_n 1, 1) := by decide +kernel
theorem dX6_rollsAgain_45 : decode cX6_rollsAgain 45 = .ok (.invokevirtual 222, 3) := by decide +kernel
theorem dX6_rollsAgain_48 : decode cX6_rollsAgain 48 = .ok (.ifCond .ne 25, 3) := by decide +kernel
theorem dX6_rollsAgain_51 : decode cX6_rollsAgain 51 = .ok (.aload_n 0, 1) := by decide +kernel
theorem dX6_rollsAgain_52 : decode cX6_rollsAgain 52 = .ok (.getfield 16, 3) := by decide +kernel
theorem dX6_rollsAgain_55 : decode cX6_rollsAgain 55 = .ok (.aload_n 0, 1) := by decide +kernel
theorem dX6_rollsAgain_56 : decode cX6_rollsAgain 56 = .ok (.getfield 16, 3) := by decide +kernel
theorem dX6_rollsAgain_59 : decode cX6_rollsAgain 59 = .ok (.getfield 187, 3) := by decide +kernel
theorem dX6_rollsAgain_62 : decode cX6_rollsAgain 62 = .ok (.iload_n 1, 1) := by decide +kernel
theorem dX6_rollsAgain_63 : decode cX6_rollsAgain 63 = .ok (.aaload, 1) := by decide +kernel
theorem dX6_rollsAgain_64 : decode cX6_rollsAgain 64 = .ok (.invokevirtual 218, 3) := by decide +kernel
theorem dX6_rollsAgain_67 : decode cX6_rollsAgain 67 = .ok (.iinc 2 1, 3) := by decide +kernel
theorem dX6_rollsAgain_70 : decode cX6_rollsAgain 70 = .ok (.goto (-36), 3) := by decide +kernel
theorem dX6_rollsAgain_73 : decode cX6_rollsAgain 73 = .ok (.iload_n 2, 1) := by decide +kernel
theorem dX6_rollsAgain_74 : decode cX6_rollsAgain 74 = .ok (.ireturn, 1) := by decide +kernel
theorem dX6_iceIn_0 : decode cX6_iceIn 0 = .ok (.iload_n 1, 1) := by decide +kernel
theorem dX6_iceIn_1 : decode cX6_iceIn 1 = .ok (.invokestatic 72, 3) := by decide +kernel
theorem dX6_iceIn_4 : decode cX6_iceIn 4 = .ok (.ifCond .ne 13, 3) := by decide +kernel
theorem dX6_iceIn_7 : decode cX6_iceIn 7 = .ok (.new 75, 3) := by decide +kernel
theorem dX6_iceIn_10 : decode cX6_iceIn 10 = .ok (.dup, 1) := by decide +kernel
theorem dX6_iceIn_11 : decode cX6_iceIn 11 = .ok (.ldc 77, 2) := by decide +kernel
theorem dX6_iceIn_13 : decode cX6_iceIn 13 = .ok (.invokespecial 79, 3) := by decide +kernel
theorem dX6_iceIn_16 : decode cX6_iceIn 16 = .ok (.athrow, 1) := by decide +kernel
theorem dX6_iceIn_17 : decode cX6_iceIn 17 = .ok (.iload_n 2, 1) := by decide +kernel
theorem dX6_iceIn_18 : decode cX6_iceIn 18 = .ok (.ifCond .lt 9, 3) := by decide +kernel
theorem dX6_iceIn_21 : decode cX6_iceIn 21 = .ok (.iload_n 2, 1) := by decide +kernel
theorem dX6_iceIn_22 : decode cX6_iceIn 22 = .ok (.bipush 60, 2) := by decide +kernel
theorem dX6_iceIn_24 : decode cX6_iceIn 24 = .ok (.if_icmp .le 14, 3) := by decide +kernel
theorem dX6_iceIn_27 : decode cX6_iceIn 27 = .ok (.new 51, 3) := by decide +kernel
theorem dX6_iceIn_30 : decode cX6_iceIn 30 = .ok (.dup, 1) := by decide +kernel
theorem dX6_iceIn_31 : decode cX6_iceIn 31 = .ok (.ldc_w 273, 3) := by decide +kernel
theorem dX6_iceIn_34 : decode cX6_iceIn 34 = .ok (.invokespecial 55, 3) := by decide +kernel
theorem dX6_iceIn_37 : decode cX6_iceIn 37 = .ok (.athrow, 1) := by decide +kernel
theorem dX6_iceIn_38 : decode cX6_iceIn 38 = .ok (.aload_n 0, 1) := by decide +kernel
theorem dX6_iceIn_39 : decode cX6_iceIn 39 = .ok (.getfield 12, 3) := by decide +kernel
theorem dX6_iceIn_42 : decode cX6_iceIn 42 = .ok (.getfield 80, 3) := by decide +kernel
theorem dX6_iceIn_45 : decode cX6_iceIn 45 = .ok (.iload_n 1, 1) := by decide +kernel
theorem dX6_iceIn_46 : decode cX6_iceIn 46 = .ok (.aaload, 1) := by decide +kernel
theorem dX6_iceIn_47 : decode cX6_iceIn 47 = .ok (.getfield 121, 3) := by decide +kernel
theorem dX6_iceIn_50 : decode cX6_iceIn 50 = .ok (.fstore_n 3, 1) := by decide +kernel
theorem dX6_iceIn_51 : decode cX6_iceIn 51 = .ok (.iconst 0, 1) := by decide +kernel
theorem dX6_iceIn_52 : decode cX6_iceIn 52 = .ok (.istore 4, 2) := by decide +kernel
theorem dX6_iceIn_54 : decode cX6_iceIn 54 = .ok (.iload 4, 2) := by decide +kernel
theorem dX6_iceIn_56 : decode cX6_iceIn 56 = .ok (.iload_n 2, 1) := by decide +kernel
theorem dX6_iceIn_57 : decode cX6_iceIn 57 = .ok (.if_icmp .ge 23, 3) := by decide +kernel
theorem dX6_iceIn_60 : decode cX6_iceIn 60 = .ok (.fload_n 3, 1) := by decide +kernel
theorem dX6_iceIn_61 : decode cX6_iceIn 61 = .ok (.aload_n 0, 1) := by decide +kernel
theorem dX6_iceIn_62 : decode cX6_iceIn 62 = .ok (.getfield 12, 3) := by decide +kernel
theorem dX6_iceIn_65 : decode cX6_iceIn 65 = .ok (.getfield 62, 3) := by decide +kernel
theorem dX6_iceIn_68 : decode cX6_iceIn 68 = .ok (.iconst 0, 1) := by decide +kernel
theorem dX6_iceIn_69 : decode cX6_iceIn 69 = .ok (.iaload, 1) := by decide +kernel
theorem dX6_iceIn_70 : decode cX6_iceIn 70 = .ok (.invokestatic 275, 3) := by decide +kernel
theorem dX6_iceIn_73 : decode cX6_iceIn 73 = .ok (.fstore_n 3, 1) := by decide +kernel
theorem dX6_iceIn_74 : decode cX6_iceIn 74 = .ok (.iinc 4 1, 3) := by decide +kernel
theorem dX6_iceIn_77 : decode cX6_iceIn 77 = .ok (.goto (-23), 3) := by decide +kernel
theorem dX6_iceIn_80 : decode cX6_iceIn 80 = .ok (.fload_n 3, 1) := by decide +kernel
theorem dX6_iceIn_81 : decode cX6_iceIn 81 = .ok (.invokestatic 94, 3) := by decide +kernel
theorem dX6_iceIn_84 : decode cX6_iceIn 84 = .ok (.ireturn, 1) := by decide +kernel
theorem dX6_bearsIn_0 : decode cX6_bearsIn 0 = .ok (.iload_n 1, 1) := by decide +kernel
theorem dX6_bearsIn_1 : decode cX6_bearsIn 1 = .ok (.invokestatic 72, 3) := by decide +kernel
theorem dX6_bearsIn_4 : decode cX6_bearsIn 4 = .ok (.ifCond .ne 13, 3) := by decide +kernel
theorem dX6_bearsIn_7 : decode cX6_bearsIn 7 = .ok (.new 75, 3) := by decide +kernel
theorem dX6_bearsIn_10 : decode cX6_bearsIn 10 = .ok (.dup, 1) := by decide +kernel
theorem dX6_bearsIn_11 : decode cX6_bearsIn 11 = .ok (.ldc 77, 2) := by decide +kernel
theorem dX6_bearsIn_13 : decode cX6_bearsIn 13 = .ok (.invokespecial 79, 3) := by decide +kernel
theorem dX6_bearsIn_16 : decode cX6_bearsIn 16 = .ok (.athrow, 1) := by decide +kernel
theorem dX6_bearsIn_17 : decode cX6_bearsIn 17 = .ok (.iload_n 2, 1) := by decide +kernel
theorem dX6_bearsIn_18 : decode cX6_bearsIn 18 = .ok (.iconst 1, 1) := by decide +kernel
theorem dX6_bearsIn_19 : decode cX6_bearsIn 19 = .ok (.if_icmp .lt 9, 3) := by decide +kernel
theorem dX6_bearsIn_22 : decode cX6_bearsIn 22 = .ok (.iload_n 2, 1) := by decide +kernel
theorem dX6_bearsIn_23 : decode cX6_bearsIn 23 = .ok (.bipush 99, 2) := by decide +kernel
theorem dX6_bearsIn_25 : decode cX6_bearsIn 25 = .ok (.if_icmp .le 14, 3) := by decide +kernel
theorem dX6_bearsIn_28 : decode cX6_bearsIn 28 = .ok (.new 51, 3) := by decide +kernel
theorem dX6_bearsIn_31 : decode cX6_bearsIn 31 = .ok (.dup, 1) := by decide +kernel
theorem dX6_bearsIn_32 : decode cX6_bearsIn 32 = .ok (.ldc_w 279, 3) := by decide +kernel
theorem dX6_bearsIn_35 : decode cX6_bearsIn 35 = .ok (.invokespecial 55, 3) := by decide +kernel
theorem dX6_bearsIn_38 : decode cX6_bearsIn 38 = .ok (.athrow, 1) := by decide +kernel
theorem dX6_bearsIn_39 : decode cX6_bearsIn 39 = .ok (.aload_n 0, 1) := by decide +kernel
theorem dX6_bearsIn_40 : decode cX6_bearsIn 40 = .ok (.getfield 12, 3) := by decide +kernel
theorem dX6_bearsIn_43 : decode cX6_bearsIn 43 = .ok (.getfield 80, 3) := by decide +kernel
theorem dX6_bearsIn_46 : decode cX6_bearsIn 46 = .ok (.iload_n 1, 1) := by decide +kernel
theorem dX6_bearsIn_47 : decode cX6_bearsIn 47 = .ok (.aaload, 1) := by decide +kernel
theorem dX6_bearsIn_48 : decode cX6_bearsIn 48 = .ok (.getfield 121, 3) := by decide +kernel
theorem dX6_bearsIn_51 : decode cX6_bearsIn 51 = .ok (.fstore_n 3, 1) := by decide +kernel
theorem dX6_bearsIn_52 : decode cX6_bearsIn 52 = .ok (.iconst 0, 1) := by decide +kernel
theorem dX6_bearsIn_53 : decode cX6_bearsIn 53 = .ok (.istore 4, 2) := by decide +kernel
theorem dX6_bearsIn_55 : decode cX6_bearsIn 55 = .ok (.iload 4, 2) := by decide +kernel
theorem dX6_bearsIn_57 : decode cX6_bearsIn 57 = .ok (.bipush 90, 2) := by decide +kernel
theorem dX6_bearsIn_59 : decode cX6_bearsIn 59 = .ok (.if_icmp .gt 39, 3) := by decide +kernel
theorem dX6_bearsIn_62 : decode cX6_bearsIn 62 = .ok (.fload_n 3, 1) := by decide +kernel
theorem dX6_bearsIn_63 : decode cX6_bearsIn 63 = .ok (.fload_n 3, 1) := by decide +kernel
theorem dX6_bearsIn_64 : decode cX6_bearsIn 64 = .ok (.fmul, 1) := by decide +kernel
theorem dX6_bearsIn_65 : decode cX6_bearsIn 65 = .ok (.ldc_w 281, 3) := by decide +kernel
theorem dX6_bearsIn_68 : decode cX6_bearsIn 68 = .ok (.fmul, 1) := by decide +kernel
theorem dX6_bearsIn_69 : decode cX6_bearsIn 69 = .ok (.iload_n 2, 1) := by decide +kernel
theorem dX6_bearsIn_70 : decode cX6_bearsIn 70 = .ok (.i2f, 1) := by decide +kernel
theorem dX6_bearsIn_71 : decode cX6_bearsIn 71 = .ok (.fcmp .l, 1) := by decide +kernel
theorem dX6_bearsIn_72 : decode cX6_bearsIn 72 = .ok (.ifCond .lt 6, 3) := by decide +kernel
theorem dX6_bearsIn_75 : decode cX6_bearsIn 75 = .ok (.iload 4, 2) := by decide +kernel
theorem dX6_bearsIn_77 : decode cX6_bearsIn 77 = .ok (.ireturn, 1) := by decide +kernel
theorem dX6_bearsIn_78 : decode cX6_bearsIn 78 = .ok (.fload_n 3, 1) := by decide +kernel
theorem dX6_bearsIn_79 : decode cX6_bearsIn 79 = .ok (.aload_n 0, 1) := by decide +kernel
theorem dX6_bearsIn_80 : decode cX6_bearsIn 80 = .ok (.getfield 12, 3) := by decide +kernel
theorem dX6_bearsIn_83 : decode cX6_bearsIn 83 = .ok (.getfield 62, 3) := by decide +kernel
theorem dX6_bearsIn_86 : decode cX6_bearsIn 86 = .ok (.iconst 0, 1) := by decide +kernel
theorem dX6_bearsIn_87 : decode cX6_bearsIn 87 = .ok (.iaload, 1) := by decide +kernel
theorem dX6_bearsIn_88 : decode cX6_bearsIn 88 = .ok (.invokestatic 275, 3) := by decide +kernel
theorem dX6_bearsIn_91 : decode cX6_bearsIn 91 = .ok (.fstore_n 3, 1) := by decide +kernel
theorem dX6_bearsIn_92 : decode cX6_bearsIn 92 = .ok (.iinc 4 1, 3) := by decide +kernel
theorem dX6_bearsIn_95 : decode cX6_bearsIn 95 = .ok (.goto (-40), 3) := by decide +kernel
theorem dX6_bearsIn_98 : decode cX6_bearsIn 98 = .ok (.new 101, 3) := by decide +kernel
theorem dX6_bearsIn_101 : decode cX6_bearsIn 101 = .ok (.dup, 1) := by decide +kernel
theorem dX6_bearsIn_102 : decode cX6_bearsIn 102 = .ok (.ldc_w 282, 3) := by decide +kernel
theorem dX6_bearsIn_105 : decode cX6_bearsIn 105 = .ok (.invokespecial 105, 3) := by decide +kernel
theorem dX6_bearsIn_108 : decode cX6_bearsIn 108 = .ok (.athrow, 1) := by decide +kernel
theorem dX6_pass_0 : decode cX6_pass 0 = .ok (.iload_n 1, 1) := by decide +kernel
theorem dX6_pass_1 : decode cX6_pass 1 = .ok (.invokestatic 284, 3) := by decide +kernel
theorem dX6_pass_4 : decode cX6_pass 4 = .ok (.ifCond .ne 14, 3) := by decide +kernel
theorem dX6_pass_7 : decode cX6_pass 7 = .ok (.new 51, 3) := by decide +kernel
theorem dX6_pass_10 : decode cX6_pass 10 = .ok (.dup, 1) := by decide +kernel
theorem dX6_pass_11 : decode cX6_pass 11 = .ok (.ldc_w 273, 3) := by decide +kernel
theorem dX6_pass_14 : decode cX6_pass 14 = .ok (.invokespecial 55, 3) := by decide +kernel
theorem dX6_pass_17 : decode cX6_pass 17 = .ok (.athrow, 1) := by decide +kernel
theorem dX6_pass_18 : decode cX6_pass 18 = .ok (.aload_n 0, 1) := by decide +kernel
theorem dX6_pass_19 : decode cX6_pass 19 = .ok (.getfield 29, 3) := by decide +kernel
theorem dX6_pass_22 : decode cX6_pass 22 = .ok (.aload_n 0, 1) := by decide +kernel
theorem dX6_pass_23 : decode cX6_pass 23 = .ok (.getfield 12, 3) := by decide +kernel
theorem dX6_pass_26 : decode cX6_pass 26 = .ok (.invokevirtual 58, 3) := by decide +kernel
theorem dX6_pass_29 : decode cX6_pass 29 = .ok (.aload_n 0, 1) := by decide +kernel
theorem dX6_pass_30 : decode cX6_pass 30 = .ok (.getfield 12, 3) := by decide +kernel
theorem dX6_pass_33 : decode cX6_pass 33 = .ok (.invokevirtual 287, 3) := by decide +kernel
theorem dX6_pass_36 : decode cX6_pass 36 = .ok (.istore_n 2, 1) := by decide +kernel
theorem dX6_pass_37 : decode cX6_pass 37 = .ok (.aload_n 0, 1) := by decide +kernel
theorem dX6_pass_38 : decode cX6_pass 38 = .ok (.getfield 12, 3) := by decide +kernel
theorem dX6_pass_41 : decode cX6_pass 41 = .ok (.iload_n 1, 1) := by decide +kernel
theorem dX6_pass_42 : decode cX6_pass 42 = .ok (.invokevirtual 290, 3) := by decide +kernel
theorem dX6_pass_45 : decode cX6_pass 45 = .ok (.iload_n 2, 1) := by decide +kernel
theorem dX6_pass_46 : decode cX6_pass 46 = .ok (.aload_n 0, 1) := by decide +kernel
theorem dX6_pass_47 : decode cX6_pass 47 = .ok (.getfield 12, 3) := by decide +kernel
theorem dX6_pass_50 : decode cX6_pass 50 = .ok (.invokevirtual 287, 3) := by decide +kernel
theorem dX6_pass_53 : decode cX6_pass 53 = .ok (.isub, 1) := by decide +kernel
theorem dX6_pass_54 : decode cX6_pass 54 = .ok (.ireturn, 1) := by decide +kernel
theorem dX6_append_0 : decode cX6_append 0 = .ok (.aload_n 0, 1) := by decide +kernel
theorem dX6_append_1 : decode cX6_append 1 = .ok (.getfield 36, 3) := by decide +kernel
theorem dX6_append_4 : decode cX6_append 4 = .ok (.getfield 294, 3) := by decide +kernel
theorem dX6_append_7 : decode cX6_append 7 = .ok (.bipush 60, 2) := by decide +kernel
theorem dX6_append_9 : decode cX6_append 9 = .ok (.if_icmp .lt 14, 3) := by decide +kernel
theorem dX6_append_12 : decode cX6_append 12 = .ok (.new 297, 3) := by decide +kernel
theorem dX6_append_15 : decode cX6_append 15 = .ok (.dup, 1) := by decide +kernel
theorem dX6_append_16 : decode cX6_append 16 = .ok (.ldc_w 299, 3) := by decide +kernel
theorem dX6_append_19 : decode cX6_append 19 = .ok (.invokespecial 301, 3) := by decide +kernel
theorem dX6_append_22 : decode cX6_append 22 = .ok (.athrow, 1) := by decide +kernel
theorem dX6_append_23 : decode cX6_append 23 = .ok (.aload_n 0, 1) := by decide +kernel
theorem dX6_append_24 : decode cX6_append 24 = .ok (.getfield 36, 3) := by decide +kernel
theorem dX6_append_27 : decode cX6_append 27 = .ok (.getfield 302, 3) := by decide +kernel
theorem dX6_append_30 : decode cX6_append 30 = .ok (.aload_n 0, 1) := by decide +kernel
theorem dX6_append_31 : decode cX6_append 31 = .ok (.getfield 36, 3) := by decide +kernel
theorem dX6_append_34 : decode cX6_append 34 = .ok (.getfield 294, 3) := by decide +kernel
theorem dX6_append_37 : decode cX6_append 37 = .ok (.iload_n 1, 1) := by decide +kernel
theorem dX6_append_38 : decode cX6_append 38 = .ok (.castore, 1) := by decide +kernel
theorem dX6_append_39 : decode cX6_append 39 = .ok (.aload_n 0, 1) := by decide +kernel
theorem dX6_append_40 : decode cX6_append 40 = .ok (.getfield 36, 3) := by decide +kernel
theorem dX6_append_43 : decode cX6_append 43 = .ok (.dup, 1) := by decide +kernel
theorem dX6_append_44 : decode cX6_append 44 = .ok (.getfield 294, 3) := by decide +kernel
theorem dX6_append_47 : decode cX6_append 47 = .ok (.iconst 1, 1) := by decide +kernel
theorem dX6_append_48 : decode cX6_append 48 = .ok (.iadd, 1) := by decide +kernel
theorem dX6_append_49 : decode cX6_append 49 = .ok (.putfield 294, 3) := by decide +kernel
theorem dX6_append_52 : decode cX6_append 52 = .ok (.aload_n 0, 1) := by decide +kernel
theorem dX6_append_53 : decode cX6_append 53 = .ok (.getfield 36, 3) := by decide +kernel
theorem dX6_append_56 : decode cX6_append 56 = .ok (.getfield 294, 3) := by decide +kernel
theorem dX6_append_59 : decode cX6_append 59 = .ok (.ireturn, 1) := by decide +kernel
theorem dX6_read_0 : decode cX6_read 0 = .ok (.aload_n 0, 1) := by decide +kernel
theorem dX6_read_1 : decode cX6_read 1 = .ok (.aload_n 0, 1) := by decide +kernel
theorem dX6_read_2 : decode cX6_read 2 = .ok (.getfield 36, 3) := by decide +kernel
theorem dX6_read_5 : decode cX6_read 5 = .ok (.invokevirtual 306, 3) := by decide +kernel
theorem dX6_read_8 : decode cX6_read 8 = .ok (.putfield 40, 3) := by decide +kernel
theorem dX6_read_11 : decode cX6_read 11 = .ok (.aload_n 0, 1) := by decide +kernel
theorem dX6_read_12 : decode cX6_read 12 = .ok (.getfield 36, 3) := by decide +kernel
theorem dX6_read_15 : decode cX6_read 15 = .ok (.iconst 0, 1) := by decide +kernel
theorem dX6_read_16 : decode cX6_read 16 = .ok (.putfield 294, 3) := by decide +kernel
theorem dX6_read_19 : decode cX6_read 19 = .ok (.aload_n 0, 1) := by decide +kernel
theorem dX6_read_20 : decode cX6_read 20 = .ok (.getfield 40, 3) := by decide +kernel
theorem dX6_read_23 : decode cX6_read 23 = .ok (.ifCond .lt 14, 3) := by decide +kernel
theorem dX6_read_26 : decode cX6_read 26 = .ok (.new 51, 3) := by decide +kernel
theorem dX6_read_29 : decode cX6_read 29 = .ok (.dup, 1) := by decide +kernel
theorem dX6_read_30 : decode cX6_read 30 = .ok (.ldc_w 309, 3) := by decide +kernel
theorem dX6_read_33 : decode cX6_read 33 = .ok (.invokespecial 55, 3) := by decide +kernel
theorem dX6_read_36 : decode cX6_read 36 = .ok (.athrow, 1) := by decide +kernel
theorem dX6_read_37 : decode cX6_read 37 = .ok (.aload_n 0, 1) := by decide +kernel
theorem dX6_read_38 : decode cX6_read 38 = .ok (.getfield 16, 3) := by decide +kernel
theorem dX6_read_41 : decode cX6_read 41 = .ok (.aload_n 0, 1) := by decide +kernel
theorem dX6_read_42 : decode cX6_read 42 = .ok (.getfield 12, 3) := by decide +kernel
theorem dX6_read_45 : decode cX6_read 45 = .ok (.invokevirtual 270, 3) := by decide +kernel
theorem dX6_read_48 : decode cX6_read 48 = .ok (.iconst 0, 1) := by decide +kernel
theorem dX6_read_49 : decode cX6_read 49 = .ok (.istore_n 1, 1) := by decide +kernel
theorem dX6_read_50 : decode cX6_read 50 = .ok (.iload_n 1, 1) := by decide +kernel
theorem dX6_read_51 : decode cX6_read 51 = .ok (.aload_n 0, 1) := by decide +kernel
theorem dX6_read_52 : decode cX6_read 52 = .ok (.getfield 36, 3) := by decide +kernel
theorem dX6_read_55 : decode cX6_read 55 = .ok (.getfield 311, 3) := by decide +kernel
theorem dX6_read_58 : decode cX6_read 58 = .ok (.if_icmp .ge 57, 3) := by decide +kernel
theorem dX6_read_61 : decode cX6_read 61 = .ok (.aload_n 0, 1) := by decide +kernel
theorem dX6_read_62 : decode cX6_read 62 = .ok (.getfield 36, 3) := by decide +kernel
theorem dX6_read_65 : decode cX6_read 65 = .ok (.iload_n 1, 1) := by decide +kernel
theorem dX6_read_66 : decode cX6_read 66 = .ok (.aload_n 0, 1) := by decide +kernel
theorem dX6_read_67 : decode cX6_read 67 = .ok (.getfield 16, 3) := by decide +kernel
theorem dX6_read_70 : decode cX6_read 70 = .ok (.invokevirtual 314, 3) := by decide +kernel
theorem dX6_read_73 : decode cX6_read 73 = .ok (.istore_n 2, 1) := by decide +kernel
theorem dX6_read_74 : decode cX6_read 74 = .ok (.iload_n 2, 1) := by decide +kernel
theorem dX6_read_75 : decode cX6_read 75 = .ok (.ifCond .ge 14, 3) := by decide +kernel
theorem dX6_read_78 : decode cX6_read 78 = .ok (.new 51, 3) := by decide +kernel
theorem dX6_read_81 : decode cX6_read 81 = .ok (.dup, 1) := by decide +kernel
theorem dX6_read_82 : decode cX6_read 82 = .ok (.ldc_w 318, 3) := by decide +kernel
theorem dX6_read_85 : decode cX6_read 85 = .ok (.invokespecial 55, 3) := by decide +kernel
theorem dX6_read_88 : decode cX6_read 88 = .ok (.athrow, 1) := by decide +kernel
theorem dX6_read_89 : decode cX6_read 89 = .ok (.iload_n 2, 1) := by decide +kernel
theorem dX6_read_90 : decode cX6_read 90 = .ok (.ifCond .le 19, 3) := by decide +kernel
theorem dX6_read_93 : decode cX6_read 93 = .ok (.aload_n 0, 1) := by decide +kernel
theorem dX6_read_94 : decode cX6_read 94 = .ok (.iload_n 2, 1) := by decide +kernel
theorem dX6_read_95 : decode cX6_read 95 = .ok (.putfield 44, 3) := by decide +kernel
theorem dX6_read_98 : decode cX6_read 98 = .ok (.new 146, 3) := by decide +kernel
theorem dX6_read_101 : decode cX6_read 101 = .ok (.dup, 1) := by decide +kernel
theorem dX6_read_102 : decode cX6_read 102 = .ok (.ldc_w 320, 3) := by decide +kernel
theorem dX6_read_105 : decode cX6_read 105 = .ok (.invokespecial 150, 3) := by decide +kernel
theorem dX6_read_108 : decode cX6_read 108 = .ok (.athrow, 1) := by decide +kernel
theorem dX6_read_109 : decode cX6_read 109 = .ok (.iinc 1 1, 3) := by decide +kernel
theorem dX6_read_112 : decode cX6_read 112 = .ok (.goto (-62), 3) := by decide +kernel
theorem dX6_read_115 : decode cX6_read 115 = .ok (.aload_n 0, 1) := by decide +kernel
theorem dX6_read_116 : decode cX6_read 116 = .ok (.getfield 29, 3) := by decide +kernel
theorem dX6_read_119 : decode cX6_read 119 = .ok (.aload_n 0, 1) := by decide +kernel
theorem dX6_read_120 : decode cX6_read 120 = .ok (.getfield 12, 3) := by decide +kernel
theorem dX6_read_123 : decode cX6_read 123 = .ok (.invokevirtual 58, 3) := by decide +kernel
theorem dX6_read_126 : decode cX6_read 126 = .ok (.aload_n 0, 1) := by decide +kernel
theorem dX6_read_127 : decode cX6_read 127 = .ok (.getfield 12, 3) := by decide +kernel
theorem dX6_read_130 : decode cX6_read 130 = .ok (.aload_n 0, 1) := by decide +kernel
theorem dX6_read_131 : decode cX6_read 131 = .ok (.getfield 16, 3) := by decide +kernel
theorem dX6_read_134 : decode cX6_read 134 = .ok (.invokevirtual 270, 3) := by decide +kernel
theorem dX6_read_137 : decode cX6_read 137 = .ok (.aload_n 0, 1) := by decide +kernel
theorem dX6_read_138 : decode cX6_read 138 = .ok (.getfield 36, 3) := by decide +kernel
theorem dX6_read_141 : decode cX6_read 141 = .ok (.getfield 311, 3) := by decide +kernel
theorem dX6_read_144 : decode cX6_read 144 = .ok (.ireturn, 1) := by decide +kernel
theorem dX6_refusal_0 : decode cX6_refusal 0 = .ok (.aload_n 0, 1) := by decide +kernel
theorem dX6_refusal_1 : decode cX6_refusal 1 = .ok (.getfield 44, 3) := by decide +kernel
theorem dX6_refusal_4 : decode cX6_refusal 4 = .ok (.ifCond .ne 14, 3) := by decide +kernel
theorem dX6_refusal_7 : decode cX6_refusal 7 = .ok (.new 101, 3) := by decide +kernel
theorem dX6_refusal_10 : decode cX6_refusal 10 = .ok (.dup, 1) := by decide +kernel
theorem dX6_refusal_11 : decode cX6_refusal 11 = .ok (.ldc_w 322, 3) := by decide +kernel
theorem dX6_refusal_14 : decode cX6_refusal 14 = .ok (.invokespecial 105, 3) := by decide +kernel
theorem dX6_refusal_17 : decode cX6_refusal 17 = .ok (.athrow, 1) := by decide +kernel
theorem dX6_refusal_18 : decode cX6_refusal 18 = .ok (.iload_n 1, 1) := by decide +kernel
theorem dX6_refusal_19 : decode cX6_refusal 19 = .ok (.ifCond .eq 13, 3) := by decide +kernel
theorem dX6_refusal_22 : decode cX6_refusal 22 = .ok (.aload_n 0, 1) := by decide +kernel
theorem dX6_refusal_23 : decode cX6_refusal 23 = .ok (.getfield 44, 3) := by decide +kernel
theorem dX6_refusal_26 : decode cX6_refusal 26 = .ok (.bipush 16, 2) := by decide +kernel
theorem dX6_refusal_28 : decode cX6_refusal 28 = .ok (.irem, 1) := by decide +kernel
theorem dX6_refusal_29 : decode cX6_refusal 29 = .ok (.goto 10, 3) := by decide +kernel
theorem dX6_refusal_32 : decode cX6_refusal 32 = .ok (.aload_n 0, 1) := by decide +kernel
theorem dX6_refusal_33 : decode cX6_refusal 33 = .ok (.getfield 44, 3) := by decide +kernel
theorem dX6_refusal_36 : decode cX6_refusal 36 = .ok (.bipush 16, 2) := by decide +kernel
theorem dX6_refusal_38 : decode cX6_refusal 38 = .ok (.idiv, 1) := by decide +kernel
theorem dX6_refusal_39 : decode cX6_refusal 39 = .ok (.ireturn, 1) := by decide +kernel
theorem dX6_account_0 : decode cX6_account 0 = .ok (.iload_n 1, 1) := by decide +kernel
theorem dX6_account_1 : decode cX6_account 1 = .ok (.tableswitch 211 0 14 #[75, 83, 91, 99, 115, 123, 131, 139, 147, 163, 171, 179, 187, 195, 203], 75) := by decide +kernel
theorem dX6_account_76 : decode cX6_account 76 = .ok (.aload_n 0, 1) := by decide +kernel
theorem dX6_account_77 : decode cX6_account 77 = .ok (.getfield 12, 3) := by decide +kernel
theorem dX6_account_80 : decode cX6_account 80 = .ok (.getfield 324, 3) := by decide +kernel
theorem dX6_account_83 : decode cX6_account 83 = .ok (.ireturn, 1) := by decide +kernel
theorem dX6_account_84 : decode cX6_account 84 = .ok (.aload_n 0, 1) := by decide +kernel
theorem dX6_account_85 : decode cX6_account 85 = .ok (.getfield 12, 3) := by decide +kernel
theorem dX6_account_88 : decode cX6_account 88 = .ok (.invokevirtual 327, 3) := by decide +kernel
theorem dX6_account_91 : decode cX6_account 91 = .ok (.ireturn, 1) := by decide +kernel
theorem dX6_account_92 : decode cX6_account 92 = .ok (.aload_n 0, 1) := by decide +kernel
theorem dX6_account_93 : decode cX6_account 93 = .ok (.getfield 12, 3) := by decide +kernel
theorem dX6_account_96 : decode cX6_account 96 = .ok (.getfield 182, 3) := by decide +kernel
theorem dX6_account_99 : decode cX6_account 99 = .ok (.ireturn, 1) := by decide +kernel
theorem dX6_account_100 : decode cX6_account 100 = .ok (.aload_n 0, 1) := by decide +kernel
theorem dX6_account_101 : decode cX6_account 101 = .ok (.getfield 12, 3) := by decide +kernel
theorem dX6_account_104 : decode cX6_account 104 = .ok (.invokevirtual 330, 3) := by decide +kernel
theorem dX6_account_107 : decode cX6_account 107 = .ok (.aload_n 0, 1) := by decide +kernel
theorem dX6_account_108 : decode cX6_account 108 = .ok (.getfield 12, 3) := by decide +kernel
theorem dX6_account_111 : decode cX6_account 111 = .ok (.invokevirtual 333, 3) := by decide +kernel
theorem dX6_account_114 : decode cX6_account 114 = .ok (.isub, 1) := by decide +kernel
theorem dX6_account_115 : decode cX6_account 115 = .ok (.ireturn, 1) := by decide +kernel
theorem dX6_account_116 : decode cX6_account 116 = .ok (.aload_n 0, 1) := by decide +kernel
theorem dX6_account_117 : decode cX6_account 117 = .ok (.getfield 12, 3) := by decide +kernel
theorem dX6_account_120 : decode cX6_account 120 = .ok (.invokevirtual 333, 3) := by decide +kernel
theorem dX6_account_123 : decode cX6_account 123 = .ok (.ireturn, 1) := by decide +kernel
theorem dX6_account_124 : decode cX6_account 124 = .ok (.aload_n 0, 1) := by decide +kernel
theorem dX6_account_125 : decode cX6_account 125 = .ok (.getfield 12, 3) := by decide +kernel
theorem dX6_account_128 : decode cX6_account 128 = .ok (.invokevirtual 336, 3) := by decide +kernel
theorem dX6_account_131 : decode cX6_account 131 = .ok (.ireturn, 1) := by decide +kernel
theorem dX6_account_132 : decode cX6_account 132 = .ok (.aload_n 0, 1) := by decide +kernel
theorem dX6_account_133 : decode cX6_account 133 = .ok (.getfield 12, 3) := by decide +kernel
theorem dX6_account_136 : decode cX6_account 136 = .ok (.invokevirtual 337, 3) := by decide +kernel
theorem dX6_account_139 : decode cX6_account 139 = .ok (.ireturn, 1) := by decide +kernel
theorem dX6_account_140 : decode cX6_account 140 = .ok (.aload_n 0, 1) := by decide +kernel
theorem dX6_account_141 : decode cX6_account 141 = .ok (.getfield 12, 3) := by decide +kernel
theorem dX6_account_144 : decode cX6_account 144 = .ok (.getfield 338, 3) := by decide +kernel
theorem dX6_account_147 : decode cX6_account 147 = .ok (.ireturn, 1) := by decide +kernel
theorem dX6_account_148 : decode cX6_account 148 = .ok (.aload_n 0, 1) := by decide +kernel
theorem dX6_account_149 : decode cX6_account 149 = .ok (.getfield 12, 3) := by decide +kernel
theorem dX6_account_152 : decode cX6_account 152 = .ok (.getfield 162, 3) := by decide +kernel
theorem dX6_account_155 : decode cX6_account 155 = .ok (.aload_n 0, 1) := by decide +kernel
theorem dX6_account_156 : decode cX6_account 156 = .ok (.getfield 12, 3) := by decide +kernel
theorem dX6_account_159 : decode cX6_account 159 = .ok (.getfield 338, 3) := by decide +kernel
theorem dX6_account_162 : decode cX6_account 162 = .ok (.isub, 1) := by decide +kernel
theorem dX6_account_163 : decode cX6_account 163 = .ok (.ireturn, 1) := by decide +kernel
theorem dX6_account_164 : decode cX6_account 164 = .ok (.aload_n 0, 1) := by decide +kernel
theorem dX6_account_165 : decode cX6_account 165 = .ok (.getfield 12, 3) := by decide +kernel
theorem dX6_account_168 : decode cX6_account 168 = .ok (.invokevirtual 341, 3) := by decide +kernel
theorem dX6_account_171 : decode cX6_account 171 = .ok (.ireturn, 1) := by decide +kernel
theorem dX6_account_172 : decode cX6_account 172 = .ok (.aload_n 0, 1) := by decide +kernel
theorem dX6_account_173 : decode cX6_account 173 = .ok (.getfield 12, 3) := by decide +kernel
theorem dX6_account_176 : decode cX6_account 176 = .ok (.invokevirtual 287, 3) := by decide +kernel
theorem dX6_account_179 : decode cX6_account 179 = .ok (.ireturn, 1) := by decide +kernel
theorem dX6_account_180 : decode cX6_account 180 = .ok (.aload_n 0, 1) := by decide +kernel
theorem dX6_account_181 : decode cX6_account 181 = .ok (.getfield 12, 3) := by decide +kernel
theorem dX6_account_184 : decode cX6_account 184 = .ok (.getfield 344, 3) := by decide +kernel
theorem dX6_account_187 : decode cX6_account 187 = .ok (.ireturn, 1) := by decide +kernel
theorem dX6_account_188 : decode cX6_account 188 = .ok (.aload_n 0, 1) := by decide +kernel
theorem dX6_account_189 : decode cX6_account 189 = .ok (.getfield 12, 3) := by decide +kernel
theorem dX6_account_192 : decode cX6_account 192 = .ok (.getfield 162, 3) := by decide +kernel
theorem dX6_account_195 : decode cX6_account 195 = .ok (.ireturn, 1) := by decide +kernel
theorem dX6_account_196 : decode cX6_account 196 = .ok (.aload_n 0, 1) := by decide +kernel
theorem dX6_account_197 : decode cX6_account 197 = .ok (.getfield 36, 3) := by decide +kernel
theorem dX6_account_200 : decode cX6_account 200 = .ok (.getfield 294, 3) := by decide +kernel
theorem dX6_account_203 : decode cX6_account 203 = .ok (.ireturn, 1) := by decide +kernel
theorem dX6_account_204 : decode cX6_account 204 = .ok (.aload_n 0, 1) := by decide +kernel
theorem dX6_account_205 : decode cX6_account 205 = .ok (.getfield 29, 3) := by decide +kernel
theorem dX6_account_208 : decode cX6_account 208 = .ok (.getfield 347, 3) := by decide +kernel
theorem dX6_account_211 : decode cX6_account 211 = .ok (.ireturn, 1) := by decide +kernel
theorem dX6_account_212 : decode cX6_account 212 = .ok (.new 51, 3) := by decide +kernel
theorem dX6_account_215 : decode cX6_account 215 = .ok (.dup, 1) := by decide +kernel
theorem dX6_account_216 : decode cX6_account 216 = .ok (.ldc_w 348, 3) := by decide +kernel
theorem dX6_account_219 : decode cX6_account 219 = .ok (.invokespecial 55, 3) := by decide +kernel
theorem dX6_account_222 : decode cX6_account 222 = .ok (.athrow, 1) := by decide +kernel
theorem dX6_isWell_0 : decode cX6_isWell 0 = .ok (.aload_n 0, 1) := by decide +kernel
theorem dX6_isWell_1 : decode cX6_isWell 1 = .ok (.getfield 12, 3) := by decide +kernel
theorem dX6_isWell_4 : decode cX6_isWell 4 = .ok (.getfield 162, 3) := by decide +kernel
theorem dX6_isWell_7 : decode cX6_isWell 7 = .ok (.aload_n 0, 1) := by decide +kernel
theorem dX6_isWell_8 : decode cX6_isWell 8 = .ok (.getfield 12, 3) := by decide +kernel
theorem dX6_isWell_11 : decode cX6_isWell 11 = .ok (.getfield 338, 3) := by decide +kernel
theorem dX6_isWell_14 : decode cX6_isWell 14 = .ok (.aload_n 0, 1) := by decide +kernel
theorem dX6_isWell_15 : decode cX6_isWell 15 = .ok (.getfield 12, 3) := by decide +kernel
theorem dX6_isWell_18 : decode cX6_isWell 18 = .ok (.invokevirtual 350, 3) := by decide +kernel
theorem dX6_isWell_21 : decode cX6_isWell 21 = .ok (.iadd, 1) := by decide +kernel
theorem dX6_isWell_22 : decode cX6_isWell 22 = .ok (.aload_n 0, 1) := by decide +kernel
theorem dX6_isWell_23 : decode cX6_isWell 23 = .ok (.getfield 12, 3) := by decide +kernel
theorem dX6_isWell_26 : decode cX6_isWell 26 = .ok (.invokevirtual 353, 3) := by decide +kernel
theorem dX6_isWell_29 : decode cX6_isWell 29 = .ok (.iadd, 1) := by decide +kernel
theorem dX6_isWell_30 : decode cX6_isWell 30 = .ok (.if_icmp .ne 27, 3) := by decide +kernel
theorem dX6_isWell_33 : decode cX6_isWell 33 = .ok (.aload_n 0, 1) := by decide +kernel
theorem dX6_isWell_34 : decode cX6_isWell 34 = .ok (.getfield 12, 3) := by decide +kernel
theorem dX6_isWell_37 : decode cX6_isWell 37 = .ok (.invokevirtual 356, 3) := by decide +kernel
theorem dX6_isWell_40 : decode cX6_isWell 40 = .ok (.ifCond .eq 17, 3) := by decide +kernel
theorem dX6_isWell_43 : decode cX6_isWell 43 = .ok (.aload_n 0, 1) := by decide +kernel
theorem dX6_isWell_44 : decode cX6_isWell 44 = .ok (.getfield 12, 3) := by decide +kernel
theorem dX6_isWell_47 : decode cX6_isWell 47 = .ok (.invokevirtual 359, 3) := by decide +kernel
theorem dX6_isWell_50 : decode cX6_isWell 50 = .ok (.ifCond .eq 7, 3) := by decide +kernel
theorem dX6_isWell_53 : decode cX6_isWell 53 = .ok (.iconst 1, 1) := by decide +kernel
theorem dX6_isWell_54 : decode cX6_isWell 54 = .ok (.goto 4, 3) := by decide +kernel
theorem dX6_isWell_57 : decode cX6_isWell 57 = .ok (.iconst 0, 1) := by decide +kernel
theorem dX6_isWell_58 : decode cX6_isWell 58 = .ok (.ireturn, 1) := by decide +kernel
theorem dX6_meanBits_0 : decode cX6_meanBits 0 = .ok (.dconst 0, 1) := by decide +kernel
theorem dX6_meanBits_1 : decode cX6_meanBits 1 = .ok (.dstore_n 1, 1) := by decide +kernel
theorem dX6_meanBits_2 : decode cX6_meanBits 2 = .ok (.iconst 0, 1) := by decide +kernel
theorem dX6_meanBits_3 : decode cX6_meanBits 3 = .ok (.istore_n 3, 1) := by decide +kernel
theorem dX6_meanBits_4 : decode cX6_meanBits 4 = .ok (.iload_n 3, 1) := by decide +kernel
theorem dX6_meanBits_5 : decode cX6_meanBits 5 = .ok (.bipush 12, 2) := by decide +kernel
theorem dX6_meanBits_7 : decode cX6_meanBits 7 = .ok (.if_icmp .ge 25, 3) := by decide +kernel
theorem dX6_meanBits_10 : decode cX6_meanBits 10 = .ok (.dload_n 1, 1) := by decide +kernel
theorem dX6_meanBits_11 : decode cX6_meanBits 11 = .ok (.aload_n 0, 1) := by decide +kernel
theorem dX6_meanBits_12 : decode cX6_meanBits 12 = .ok (.getfield 12, 3) := by decide +kernel
theorem dX6_meanBits_15 : decode cX6_meanBits 15 = .ok (.getfield 80, 3) := by decide +kernel
theorem dX6_meanBits_18 : decode cX6_meanBits 18 = .ok (.iload_n 3, 1) := by decide +kernel
theorem dX6_meanBits_19 : decode cX6_meanBits 19 = .ok (.aaload, 1) := by decide +kernel
theorem dX6_meanBits_20 : decode cX6_meanBits 20 = .ok (.getfield 121, 3) := by decide +kernel
theorem dX6_meanBits_23 : decode cX6_meanBits 23 = .ok (.f2d, 1) := by decide +kernel
theorem dX6_meanBits_24 : decode cX6_meanBits 24 = .ok (.dadd, 1) := by decide +kernel
theorem dX6_meanBits_25 : decode cX6_meanBits 25 = .ok (.dstore_n 1, 1) := by decide +kernel
theorem dX6_meanBits_26 : decode cX6_meanBits 26 = .ok (.iinc 3 1, 3) := by decide +kernel
theorem dX6_meanBits_29 : decode cX6_meanBits 29 = .ok (.goto (-25), 3) := by decide +kernel
theorem dX6_meanBits_32 : decode cX6_meanBits 32 = .ok (.dload_n 1, 1) := by decide +kernel
theorem dX6_meanBits_33 : decode cX6_meanBits 33 = .ok (.ldc2_w 362, 3) := by decide +kernel
theorem dX6_meanBits_36 : decode cX6_meanBits 36 = .ok (.ddiv, 1) := by decide +kernel
theorem dX6_meanBits_37 : decode cX6_meanBits 37 = .ok (.invokestatic 364, 3) := by decide +kernel
theorem dX6_meanBits_40 : decode cX6_meanBits 40 = .ok (.lreturn, 1) := by decide +kernel
theorem dX6_share_0 : decode cX6_share 0 = .ok (.aload_n 0, 1) := by decide +kernel
theorem dX6_share_1 : decode cX6_share 1 = .ok (.getfield 12, 3) := by decide +kernel
theorem dX6_share_4 : decode cX6_share 4 = .ok (.getfield 162, 3) := by decide +kernel
theorem dX6_share_7 : decode cX6_share 7 = .ok (.ifCond .ne 14, 3) := by decide +kernel
theorem dX6_share_10 : decode cX6_share 10 = .ok (.new 368, 3) := by decide +kernel
theorem dX6_share_13 : decode cX6_share 13 = .ok (.dup, 1) := by decide +kernel
theorem dX6_share_14 : decode cX6_share 14 = .ok (.ldc_w 370, 3) := by decide +kernel
theorem dX6_share_17 : decode cX6_share 17 = .ok (.invokespecial 372, 3) := by decide +kernel
theorem dX6_share_20 : decode cX6_share 20 = .ok (.athrow, 1) := by decide +kernel
theorem dX6_share_21 : decode cX6_share 21 = .ok (.aload_n 0, 1) := by decide +kernel
theorem dX6_share_22 : decode cX6_share 22 = .ok (.getfield 12, 3) := by decide +kernel
theorem dX6_share_25 : decode cX6_share 25 = .ok (.getfield 338, 3) := by decide +kernel
theorem dX6_share_28 : decode cX6_share 28 = .ok (.i2f, 1) := by decide +kernel
theorem dX6_share_29 : decode cX6_share 29 = .ok (.aload_n 0, 1) := by decide +kernel
theorem dX6_share_30 : decode cX6_share 30 = .ok (.getfield 12, 3) := by decide +kernel
theorem dX6_share_33 : decode cX6_share 33 = .ok (.getfield 162, 3) := by decide +kernel
theorem dX6_share_36 : decode cX6_share 36 = .ok (.i2f, 1) := by decide +kernel
theorem dX6_share_37 : decode cX6_share 37 = .ok (.fdiv, 1) := by decide +kernel
theorem dX6_share_38 : decode cX6_share 38 = .ok (.freturn, 1) := by decide +kernel
theorem dX6_undo_0 : decode cX6_undo 0 = .ok (.aload_n 0, 1) := by decide +kernel
theorem dX6_undo_1 : decode cX6_undo 1 = .ok (.getfield 29, 3) := by decide +kernel
theorem dX6_undo_4 : decode cX6_undo 4 = .ok (.getfield 347, 3) := by decide +kernel
theorem dX6_undo_7 : decode cX6_undo 7 = .ok (.ifCond .ne 14, 3) := by decide +kernel
theorem dX6_undo_10 : decode cX6_undo 10 = .ok (.new 297, 3) := by decide +kernel
theorem dX6_undo_13 : decode cX6_undo 13 = .ok (.dup, 1) := by decide +kernel
theorem dX6_undo_14 : decode cX6_undo 14 = .ok (.ldc_w 373, 3) := by decide +kernel
theorem dX6_undo_17 : decode cX6_undo 17 = .ok (.invokespecial 301, 3) := by decide +kernel
theorem dX6_undo_20 : decode cX6_undo 20 = .ok (.athrow, 1) := by decide +kernel
theorem dX6_undo_21 : decode cX6_undo 21 = .ok (.aload_n 0, 1) := by decide +kernel
theorem dX6_undo_22 : decode cX6_undo 22 = .ok (.getfield 29, 3) := by decide +kernel
theorem dX6_undo_25 : decode cX6_undo 25 = .ok (.aload_n 0, 1) := by decide +kernel
theorem dX6_undo_26 : decode cX6_undo 26 = .ok (.getfield 12, 3) := by decide +kernel
theorem dX6_undo_29 : decode cX6_undo 29 = .ok (.invokevirtual 375, 3) := by decide +kernel
theorem dX6_undo_32 : decode cX6_undo 32 = .ok (.aload_n 0, 1) := by decide +kernel
theorem dX6_undo_33 : decode cX6_undo 33 = .ok (.getfield 29, 3) := by decide +kernel
theorem dX6_undo_36 : decode cX6_undo 36 = .ok (.getfield 347, 3) := by decide +kernel
theorem dX6_undo_39 : decode cX6_undo 39 = .ok (.ireturn, 1) := by decide +kernel
theorem dX6_isSetting_0 : decode cX6_isSetting 0 = .ok (.iload_n 0, 1) := by decide +kernel
theorem dX6_isSetting_1 : decode cX6_isSetting 1 = .ok (.ifCond .lt 15, 3) := by decide +kernel
theorem dX6_isSetting_4 : decode cX6_isSetting 4 = .ok (.iload_n 0, 1) := by decide +kernel
theorem dX6_isSetting_5 : decode cX6_isSetting 5 = .ok (.getstatic 380, 3) := by decide +kernel
theorem dX6_isSetting_8 : decode cX6_isSetting 8 = .ok (.arraylength, 1) := by decide +kernel
theorem dX6_isSetting_9 : decode cX6_isSetting 9 = .ok (.if_icmp .ge 7, 3) := by decide +kernel
theorem dX6_isSetting_12 : decode cX6_isSetting 12 = .ok (.iconst 1, 1) := by decide +kernel
theorem dX6_isSetting_13 : decode cX6_isSetting 13 = .ok (.goto 4, 3) := by decide +kernel
theorem dX6_isSetting_16 : decode cX6_isSetting 16 = .ok (.iconst 0, 1) := by decide +kernel
theorem dX6_isSetting_17 : decode cX6_isSetting 17 = .ok (.ireturn, 1) := by decide +kernel
theorem dX6_isSettingValue_0 : decode cX6_isSettingValue 0 = .ok (.iload_n 0, 1) := by decide +kernel
theorem dX6_isSettingValue_1 : decode cX6_isSettingValue 1 = .ok (.invokestatic 66, 3) := by decide +kernel
theorem dX6_isSettingValue_4 : decode cX6_isSettingValue 4 = .ok (.ifCond .eq 25, 3) := by decide +kernel
theorem dX6_isSettingValue_7 : decode cX6_isSettingValue 7 = .ok (.iload_n 1, 1) := by decide +kernel
theorem dX6_isSettingValue_8 : decode cX6_isSettingValue 8 = .ok (.getstatic 380, 3) := by decide +kernel
theorem dX6_isSettingValue_11 : decode cX6_isSettingValue 11 = .ok (.iload_n 0, 1) := by decide +kernel
theorem dX6_isSettingValue_12 : decode cX6_isSettingValue 12 = .ok (.iaload, 1) := by decide +kernel
theorem dX6_isSettingValue_13 : decode cX6_isSettingValue 13 = .ok (.if_icmp .lt 16, 3) := by decide +kernel
theorem dX6_isSettingValue_16 : decode cX6_isSettingValue 16 = .ok (.iload_n 1, 1) := by decide +kernel
theorem dX6_isSettingValue_17 : decode cX6_isSettingValue 17 = .ok (.getstatic 383, 3) := by decide +kernel
theorem dX6_isSettingValue_20 : decode cX6_isSettingValue 20 = .ok (.iload_n 0, 1) := by decide +kernel
theorem dX6_isSettingValue_21 : decode cX6_isSettingValue 21 = .ok (.iaload, 1) := by decide +kernel
theorem dX6_isSettingValue_22 : decode cX6_isSettingValue 22 = .ok (.if_icmp .gt 7, 3) := by decide +kernel
theorem dX6_isSettingValue_25 : decode cX6_isSettingValue 25 = .ok (.iconst 1, 1) := by decide +kernel
theorem dX6_isSettingValue_26 : decode cX6_isSettingValue 26 = .ok (.goto 4, 3) := by decide +kernel
theorem dX6_isSettingValue_29 : decode cX6_isSettingValue 29 = .ok (.iconst 0, 1) := by decide +kernel
theorem dX6_isSettingValue_30 : decode cX6_isSettingValue 30 = .ok (.ireturn, 1) := by decide +kernel
theorem dX6_isMile_0 : decode cX6_isMile 0 = .ok (.iload_n 0, 1) := by decide +kernel
theorem dX6_isMile_1 : decode cX6_isMile 1 = .ok (.ifCond .lt 13, 3) := by decide +kernel
theorem dX6_isMile_4 : decode cX6_isMile 4 = .ok (.iload_n 0, 1) := by decide +kernel
theorem dX6_isMile_5 : decode cX6_isMile 5 = .ok (.bipush 12, 2) := by decide +kernel
theorem dX6_isMile_7 : decode cX6_isMile 7 = .ok (.if_icmp .ge 7, 3) := by decide +kernel
theorem dX6_isMile_10 : decode cX6_isMile 10 = .ok (.iconst 1, 1) := by decide +kernel
theorem dX6_isMile_11 : decode cX6_isMile 11 = .ok (.goto 4, 3) := by decide +kernel
theorem dX6_isMile_14 : decode cX6_isMile 14 = .ok (.iconst 0, 1) := by decide +kernel
theorem dX6_isMile_15 : decode cX6_isMile 15 = .ok (.ireturn, 1) := by decide +kernel
theorem dX6_isRow_0 : decode cX6_isRow 0 = .ok (.iload_n 0, 1) := by decide +kernel
theorem dX6_isRow_1 : decode cX6_isRow 1 = .ok (.ifCond .lt 12, 3) := by decide +kernel
theorem dX6_isRow_4 : decode cX6_isRow 4 = .ok (.iload_n 0, 1) := by decide +kernel
theorem dX6_isRow_5 : decode cX6_isRow 5 = .ok (.iconst 2, 1) := by decide +kernel
theorem dX6_isRow_6 : decode cX6_isRow 6 = .ok (.if_icmp .ge 7, 3) := by decide +kernel
theorem dX6_isRow_9 : decode cX6_isRow 9 = .ok (.iconst 1, 1) := by decide +kernel
theorem dX6_isRow_10 : decode cX6_isRow 10 = .ok (.goto 4, 3) := by decide +kernel
theorem dX6_isRow_13 : decode cX6_isRow 13 = .ok (.iconst 0, 1) := by decide +kernel
theorem dX6_isRow_14 : decode cX6_isRow 14 = .ok (.ireturn, 1) := by decide +kernel
theorem dX6_isPlace_0 : decode cX6_isPlace 0 = .ok (.iload_n 0, 1) := by decide +kernel
theorem dX6_isPlace_1 : decode cX6_isPlace 1 = .ok (.ifCond .lt 12, 3) := by decide +kernel
theorem dX6_isPlace_4 : decode cX6_isPlace 4 = .ok (.iload_n 0, 1) := by decide +kernel
theorem dX6_isPlace_5 : decode cX6_isPlace 5 = .ok (.iconst 5, 1) := by decide +kernel
theorem dX6_isPlace_6 : decode cX6_isPlace 6 = .ok (.if_icmp .ge 7, 3) := by decide +kernel
theorem dX6_isPlace_9 : decode cX6_isPlace 9 = .ok (.iconst 1, 1) := by decide +kernel
theorem dX6_isPlace_10 : decode cX6_isPlace 10 = .ok (.goto 4, 3) := by decide +kernel
theorem dX6_isPlace_13 : decode cX6_isPlace 13 = .ok (.iconst 0, 1) := by decide +kernel
theorem dX6_isPlace_14 : decode cX6_isPlace 14 = .ok (.ireturn, 1) := by decide +kernel
theorem dX6_isDaysToPass_0 : decode cX6_isDaysToPass 0 = .ok (.iload_n 0, 1) := by decide +kernel
theorem dX6_isDaysToPass_1 : decode cX6_isDaysToPass 1 = .ok (.iconst 1, 1) := by decide +kernel
theorem dX6_isDaysToPass_2 : decode cX6_isDaysToPass 2 = .ok (.if_icmp .lt 13, 3) := by decide +kernel
theorem dX6_isDaysToPass_5 : decode cX6_isDaysToPass 5 = .ok (.iload_n 0, 1) := by decide +kernel
theorem dX6_isDaysToPass_6 : decode cX6_isDaysToPass 6 = .ok (.bipush 30, 2) := by decide +kernel
theorem dX6_isDaysToPass_8 : decode cX6_isDaysToPass 8 = .ok (.if_icmp .gt 7, 3) := by decide +kernel
theorem dX6_isDaysToPass_11 : decode cX6_isDaysToPass 11 = .ok (.iconst 1, 1) := by decide +kernel
theorem dX6_isDaysToPass_12 : decode cX6_isDaysToPass 12 = .ok (.goto 4, 3) := by decide +kernel
theorem dX6_isDaysToPass_15 : decode cX6_isDaysToPass 15 = .ok (.iconst 0, 1) := by decide +kernel
theorem dX6_isDaysToPass_16 : decode cX6_isDaysToPass 16 = .ok (.ireturn, 1) := by decide +kernel
theorem dX6_refusalFor_0 : decode cX6_refusalFor 0 = .ok (.iload_n 0, 1) := by decide +kernel
theorem dX6_refusalFor_1 : decode cX6_refusalFor 1 = .ok (.bipush 16, 2) := by decide +kernel
theorem dX6_refusalFor_3 : decode cX6_refusalFor 3 = .ok (.imul, 1) := by decide +kernel
theorem dX6_refusalFor_4 : decode cX6_refusalFor 4 = .ok (.iload_n 1, 1) := by decide +kernel
theorem dX6_refusalFor_5 : decode cX6_refusalFor 5 = .ok (.iadd, 1) := by decide +kernel
theorem dX6_refusalFor_6 : decode cX6_refusalFor 6 = .ok (.ireturn, 1) := by decide +kernel
theorem dX6_nextIce_0 : decode cX6_nextIce 0 = .ok (.iload_n 1, 1) := by decide +kernel
theorem dX6_nextIce_1 : decode cX6_nextIce 1 = .ok (.ifCond .ge 21, 3) := by decide +kernel
theorem dX6_nextIce_4 : decode cX6_nextIce 4 = .ok (.fload_n 0, 1) := by decide +kernel
theorem dX6_nextIce_5 : decode cX6_nextIce 5 = .ok (.iload_n 1, 1) := by decide +kernel
theorem dX6_nextIce_6 : decode cX6_nextIce 6 = .ok (.ineg, 1) := by decide +kernel
theorem dX6_nextIce_7 : decode cX6_nextIce 7 = .ok (.i2f, 1) := by decide +kernel
theorem dX6_nextIce_8 : decode cX6_nextIce 8 = .ok (.ldc_w 386, 3) := by decide +kernel
theorem dX6_nextIce_11 : decode cX6_nextIce 11 = .ok (.fmul, 1) := by decide +kernel
theorem dX6_nextIce_12 : decode cX6_nextIce 12 = .ok (.fload_n 0, 1) := by decide +kernel
theorem dX6_nextIce_13 : decode cX6_nextIce 13 = .ok (.ldc_w 387, 3) := by decide +kernel
theorem dX6_nextIce_16 : decode cX6_nextIce 16 = .ok (.fadd, 1) := by decide +kernel
theorem dX6_nextIce_17 : decode cX6_nextIce 17 = .ok (.fdiv, 1) := by decide +kernel
theorem dX6_nextIce_18 : decode cX6_nextIce 18 = .ok (.fadd, 1) := by decide +kernel
theorem dX6_nextIce_19 : decode cX6_nextIce 19 = .ok (.goto 11, 3) := by decide +kernel
theorem dX6_nextIce_22 : decode cX6_nextIce 22 = .ok (.fload_n 0, 1) := by decide +kernel
theorem dX6_nextIce_23 : decode cX6_nextIce 23 = .ok (.ldc_w 388, 3) := by decide +kernel
theorem dX6_nextIce_26 : decode cX6_nextIce 26 = .ok (.iload_n 1, 1) := by decide +kernel
theorem dX6_nextIce_27 : decode cX6_nextIce 27 = .ok (.i2f, 1) := by decide +kernel
theorem dX6_nextIce_28 : decode cX6_nextIce 28 = .ok (.fmul, 1) := by decide +kernel
theorem dX6_nextIce_29 : decode cX6_nextIce 29 = .ok (.fsub, 1) := by decide +kernel
theorem dX6_nextIce_30 : decode cX6_nextIce 30 = .ok (.fstore_n 2, 1) := by decide +kernel
theorem dX6_nextIce_31 : decode cX6_nextIce 31 = .ok (.fload_n 2, 1) := by decide +kernel
theorem dX6_nextIce_32 : decode cX6_nextIce 32 = .ok (.fconst 0, 1) := by decide +kernel
theorem dX6_nextIce_33 : decode cX6_nextIce 33 = .ok (.fcmp .g, 1) := by decide +kernel
theorem dX6_nextIce_34 : decode cX6_nextIce 34 = .ok (.ifCond .ge 5, 3) := by decide +kernel
theorem dX6_nextIce_37 : decode cX6_nextIce 37 = .ok (.fconst 0, 1) := by decide +kernel
theorem dX6_nextIce_38 : decode cX6_nextIce 38 = .ok (.freturn, 1) := by decide +kernel
theorem dX6_nextIce_39 : decode cX6_nextIce 39 = .ok (.fload_n 2, 1) := by decide +kernel
theorem dX6_nextIce_40 : decode cX6_nextIce 40 = .ok (.ldc_w 389, 3) := by decide +kernel
theorem dX6_nextIce_43 : decode cX6_nextIce 43 = .ok (.fcmp .l, 1) := by decide +kernel
theorem dX6_nextIce_44 : decode cX6_nextIce 44 = .ok (.ifCond .le 9, 3) := by decide +kernel
theorem dX6_nextIce_47 : decode cX6_nextIce 47 = .ok (.ldc_w 389, 3) := by decide +kernel
theorem dX6_nextIce_50 : decode cX6_nextIce 50 = .ok (.goto 4, 3) := by decide +kernel
theorem dX6_nextIce_53 : decode cX6_nextIce 53 = .ok (.fload_n 2, 1) := by decide +kernel
theorem dX6_nextIce_54 : decode cX6_nextIce 54 = .ok (.freturn, 1) := by decide +kernel
theorem dX6_borneBy_0 : decode cX6_borneBy 0 = .ok (.fload_n 0, 1) := by decide +kernel
theorem dX6_borneBy_1 : decode cX6_borneBy 1 = .ok (.fload_n 0, 1) := by decide +kernel
theorem dX6_borneBy_2 : decode cX6_borneBy 2 = .ok (.fmul, 1) := by decide +kernel
theorem dX6_borneBy_3 : decode cX6_borneBy 3 = .ok (.ldc_w 281, 3) := by decide +kernel
theorem dX6_borneBy_6 : decode cX6_borneBy 6 = .ok (.fmul, 1) := by decide +kernel
theorem dX6_borneBy_7 : decode cX6_borneBy 7 = .ok (.fconst 1, 1) := by decide +kernel
theorem dX6_borneBy_8 : decode cX6_borneBy 8 = .ok (.ldc_w 390, 3) := by decide +kernel
theorem dX6_borneBy_11 : decode cX6_borneBy 11 = .ok (.iload_n 1, 1) := by decide +kernel
theorem dX6_borneBy_12 : decode cX6_borneBy 12 = .ok (.i2f, 1) := by decide +kernel
theorem dX6_borneBy_13 : decode cX6_borneBy 13 = .ok (.fmul, 1) := by decide +kernel
theorem dX6_borneBy_14 : decode cX6_borneBy 14 = .ok (.fsub, 1) := by decide +kernel
theorem dX6_borneBy_15 : decode cX6_borneBy 15 = .ok (.fmul, 1) := by decide +kernel
theorem dX6_borneBy_16 : decode cX6_borneBy 16 = .ok (.iload_n 2, 1) := by decide +kernel
theorem dX6_borneBy_17 : decode cX6_borneBy 17 = .ok (.i2f, 1) := by decide +kernel
theorem dX6_borneBy_18 : decode cX6_borneBy 18 = .ok (.ldc_w 391, 3) := by decide +kernel
theorem dX6_borneBy_21 : decode cX6_borneBy 21 = .ok (.fdiv, 1) := by decide +kernel
theorem dX6_borneBy_22 : decode cX6_borneBy 22 = .ok (.fmul, 1) := by decide +kernel
theorem dX6_borneBy_23 : decode cX6_borneBy 23 = .ok (.freturn, 1) := by decide +kernel
theorem dX6_floatBits_0 : decode cX6_floatBits 0 = .ok (.fload_n 0, 1) := by decide +kernel
theorem dX6_floatBits_1 : decode cX6_floatBits 1 = .ok (.fconst 0, 1) := by decide +kernel
theorem dX6_floatBits_2 : decode cX6_floatBits 2 = .ok (.fcmp .g, 1) := by decide +kernel
theorem dX6_floatBits_3 : decode cX6_floatBits 3 = .ok (.ifCond .gt 5, 3) := by decide +kernel
theorem dX6_floatBits_6 : decode cX6_floatBits 6 = .ok (.iconst 0, 1) := by decide +kernel
theorem dX6_floatBits_7 : decode cX6_floatBits 7 = .ok (.ireturn, 1) := by decide +kernel
theorem dX6_floatBits_8 : decode cX6_floatBits 8 = .ok (.fload_n 0, 1) := by decide +kernel
theorem dX6_floatBits_9 : decode cX6_floatBits 9 = .ok (.fstore_n 1, 1) := by decide +kernel
theorem dX6_floatBits_10 : decode cX6_floatBits 10 = .ok (.bipush 127, 2) := by decide +kernel
theorem dX6_floatBits_12 : decode cX6_floatBits 12 = .ok (.istore_n 2, 1) := by decide +kernel
theorem dX6_floatBits_13 : decode cX6_floatBits 13 = .ok (.iload_n 2, 1) := by decide +kernel
theorem dX6_floatBits_14 : decode cX6_floatBits 14 = .ok (.sipush 254, 3) := by decide +kernel
theorem dX6_floatBits_17 : decode cX6_floatBits 17 = .ok (.if_icmp .ge 19, 3) := by decide +kernel
theorem dX6_floatBits_20 : decode cX6_floatBits 20 = .ok (.fload_n 1, 1) := by decide +kernel
theorem dX6_floatBits_21 : decode cX6_floatBits 21 = .ok (.fconst 2, 1) := by decide +kernel
theorem dX6_floatBits_22 : decode cX6_floatBits 22 = .ok (.fcmp .l, 1) := by decide +kernel
theorem dX6_floatBits_23 : decode cX6_floatBits 23 = .ok (.ifCond .lt 13, 3) := by decide +kernel
theorem dX6_floatBits_26 : decode cX6_floatBits 26 = .ok (.fload_n 1, 1) := by decide +kernel
theorem dX6_floatBits_27 : decode cX6_floatBits 27 = .ok (.fconst 2, 1) := by decide +kernel
theorem dX6_floatBits_28 : decode cX6_floatBits 28 = .ok (.fdiv, 1) := by decide +kernel
theorem dX6_floatBits_29 : decode cX6_floatBits 29 = .ok (.fstore_n 1, 1) := by decide +kernel
theorem dX6_floatBits_30 : decode cX6_floatBits 30 = .ok (.iinc 2 1, 3) := by decide +kernel
theorem dX6_floatBits_33 : decode cX6_floatBits 33 = .ok (.goto (-20), 3) := by decide +kernel
theorem dX6_floatBits_36 : decode cX6_floatBits 36 = .ok (.iload_n 2, 1) := by decide +kernel
theorem dX6_floatBits_37 : decode cX6_floatBits 37 = .ok (.iconst 1, 1) := by decide +kernel
theorem dX6_floatBits_38 : decode cX6_floatBits 38 = .ok (.if_icmp .le 19, 3) := by decide +kernel
theorem dX6_floatBits_41 : decode cX6_floatBits 41 = .ok (.fload_n 1, 1) := by decide +kernel
theorem dX6_floatBits_42 : decode cX6_floatBits 42 = .ok (.fconst 1, 1) := by decide +kernel
theorem dX6_floatBits_43 : decode cX6_floatBits 43 = .ok (.fcmp .g, 1) := by decide +kernel
theorem dX6_floatBits_44 : decode cX6_floatBits 44 = .ok (.ifCond .ge 13, 3) := by decide +kernel
theorem dX6_floatBits_47 : decode cX6_floatBits 47 = .ok (.fload_n 1, 1) := by decide +kernel
theorem dX6_floatBits_48 : decode cX6_floatBits 48 = .ok (.fconst 2, 1) := by decide +kernel
theorem dX6_floatBits_49 : decode cX6_floatBits 49 = .ok (.fmul, 1) := by decide +kernel
theorem dX6_floatBits_50 : decode cX6_floatBits 50 = .ok (.fstore_n 1, 1) := by decide +kernel
theorem dX6_floatBits_51 : decode cX6_floatBits 51 = .ok (.iinc 2 (-1), 3) := by decide +kernel
theorem dX6_floatBits_54 : decode cX6_floatBits 54 = .ok (.goto (-18), 3) := by decide +kernel
theorem dX6_floatBits_57 : decode cX6_floatBits 57 = .ok (.iload_n 2, 1) := by decide +kernel
theorem dX6_floatBits_58 : decode cX6_floatBits 58 = .ok (.iconst 1, 1) := by decide +kernel
theorem dX6_floatBits_59 : decode cX6_floatBits 59 = .ok (.isub, 1) := by decide +kernel
theorem dX6_floatBits_60 : decode cX6_floatBits 60 = .ok (.bipush 23, 2) := by decide +kernel
theorem dX6_floatBits_62 : decode cX6_floatBits 62 = .ok (.ishl, 1) := by decide +kernel
theorem dX6_floatBits_63 : decode cX6_floatBits 63 = .ok (.fload_n 1, 1) := by decide +kernel
theorem dX6_floatBits_64 : decode cX6_floatBits 64 = .ok (.ldc_w 392, 3) := by decide +kernel
theorem dX6_floatBits_67 : decode cX6_floatBits 67 = .ok (.fmul, 1) := by decide +kernel
theorem dX6_floatBits_68 : decode cX6_floatBits 68 = .ok (.f2i, 1) := by decide +kernel
theorem dX6_floatBits_69 : decode cX6_floatBits 69 = .ok (.iadd, 1) := by decide +kernel
theorem dX6_floatBits_70 : decode cX6_floatBits 70 = .ok (.ireturn, 1) := by decide +kernel
theorem dX6_doubleBits_0 : decode cX6_doubleBits 0 = .ok (.dload_n 0, 1) := by decide +kernel
theorem dX6_doubleBits_1 : decode cX6_doubleBits 1 = .ok (.dconst 0, 1) := by decide +kernel
theorem dX6_doubleBits_2 : decode cX6_doubleBits 2 = .ok (.dcmp .g, 1) := by decide +kernel
theorem dX6_doubleBits_3 : decode cX6_doubleBits 3 = .ok (.ifCond .gt 5, 3) := by decide +kernel
theorem dX6_doubleBits_6 : decode cX6_doubleBits 6 = .ok (.lconst 0, 1) := by decide +kernel
theorem dX6_doubleBits_7 : decode cX6_doubleBits 7 = .ok (.lreturn, 1) := by decide +kernel
theorem dX6_doubleBits_8 : decode cX6_doubleBits 8 = .ok (.dload_n 0, 1) := by decide +kernel
theorem dX6_doubleBits_9 : decode cX6_doubleBits 9 = .ok (.dstore_n 2, 1) := by decide +kernel
theorem dX6_doubleBits_10 : decode cX6_doubleBits 10 = .ok (.sipush 1023, 3) := by decide +kernel
theorem dX6_doubleBits_13 : decode cX6_doubleBits 13 = .ok (.istore 4, 2) := by decide +kernel
theorem dX6_doubleBits_15 : decode cX6_doubleBits 15 = .ok (.iload 4, 2) := by decide +kernel
theorem dX6_doubleBits_17 : decode cX6_doubleBits 17 = .ok (.sipush 2046, 3) := by decide +kernel
theorem dX6_doubleBits_20 : decode cX6_doubleBits 20 = .ok (.if_icmp .ge 23, 3) := by decide +kernel
theorem dX6_doubleBits_23 : decode cX6_doubleBits 23 = .ok (.dload_n 2, 1) := by decide +kernel
theorem dX6_doubleBits_24 : decode cX6_doubleBits 24 = .ok (.ldc2_w 393, 3) := by decide +kernel
theorem dX6_doubleBits_27 : decode cX6_doubleBits 27 = .ok (.dcmp .l, 1) := by decide +kernel
theorem dX6_doubleBits_28 : decode cX6_doubleBits 28 = .ok (.ifCond .lt 15, 3) := by decide +kernel
theorem dX6_doubleBits_31 : decode cX6_doubleBits 31 = .ok (.dload_n 2, 1) := by decide +kernel
theorem dX6_doubleBits_32 : decode cX6_doubleBits 32 = .ok (.ldc2_w 393, 3) := by decide +kernel
theorem dX6_doubleBits_35 : decode cX6_doubleBits 35 = .ok (.ddiv, 1) := by decide +kernel
theorem dX6_doubleBits_36 : decode cX6_doubleBits 36 = .ok (.dstore_n 2, 1) := by decide +kernel
theorem dX6_doubleBits_37 : decode cX6_doubleBits 37 = .ok (.iinc 4 1, 3) := by decide +kernel
theorem dX6_doubleBits_40 : decode cX6_doubleBits 40 = .ok (.goto (-25), 3) := by decide +kernel
theorem dX6_doubleBits_43 : decode cX6_doubleBits 43 = .ok (.iload 4, 2) := by decide +kernel
theorem dX6_doubleBits_45 : decode cX6_doubleBits 45 = .ok (.iconst 1, 1) := by decide +kernel
theorem dX6_doubleBits_46 : decode cX6_doubleBits 46 = .ok (.if_icmp .le 21, 3) := by decide +kernel
theorem dX6_doubleBits_49 : decode cX6_doubleBits 49 = .ok (.dload_n 2, 1) := by decide +kernel
theorem dX6_doubleBits_50 : decode cX6_doubleBits 50 = .ok (.dconst 1, 1) := by decide +kernel
theorem dX6_doubleBits_51 : decode cX6_doubleBits 51 = .ok (.dcmp .g, 1) := by decide +kernel
theorem dX6_doubleBits_52 : decode cX6_doubleBits 52 = .ok (.ifCond .ge 15, 3) := by decide +kernel
theorem dX6_doubleBits_55 : decode cX6_doubleBits 55 = .ok (.dload_n 2, 1) := by decide +kernel
theorem dX6_doubleBits_56 : decode cX6_doubleBits 56 = .ok (.ldc2_w 393, 3) := by decide +kernel
theorem dX6_doubleBits_59 : decode cX6_doubleBits 59 = .ok (.dmul, 1) := by decide +kernel
theorem dX6_doubleBits_60 : decode cX6_doubleBits 60 = .ok (.dstore_n 2, 1) := by decide +kernel
theorem dX6_doubleBits_61 : decode cX6_doubleBits 61 = .ok (.iinc 4 (-1), 3) := by decide +kernel
theorem dX6_doubleBits_64 : decode cX6_doubleBits 64 = .ok (.goto (-21), 3) := by decide +kernel
theorem dX6_doubleBits_67 : decode cX6_doubleBits 67 = .ok (.iload 4, 2) := by decide +kernel
theorem dX6_doubleBits_69 : decode cX6_doubleBits 69 = .ok (.iconst 1, 1) := by decide +kernel
theorem dX6_doubleBits_70 : decode cX6_doubleBits 70 = .ok (.isub, 1) := by decide +kernel
theorem dX6_doubleBits_71 : decode cX6_doubleBits 71 = .ok (.i2l, 1) := by decide +kernel
theorem dX6_doubleBits_72 : decode cX6_doubleBits 72 = .ok (.bipush 52, 2) := by decide +kernel
theorem dX6_doubleBits_74 : decode cX6_doubleBits 74 = .ok (.lshl, 1) := by decide +kernel
theorem dX6_doubleBits_75 : decode cX6_doubleBits 75 = .ok (.dload_n 2, 1) := by decide +kernel
theorem dX6_doubleBits_76 : decode cX6_doubleBits 76 = .ok (.ldc2_w 395, 3) := by decide +kernel
theorem dX6_doubleBits_79 : decode cX6_doubleBits 79 = .ok (.dmul, 1) := by decide +kernel
theorem dX6_doubleBits_80 : decode cX6_doubleBits 80 = .ok (.d2l, 1) := by decide +kernel
theorem dX6_doubleBits_81 : decode cX6_doubleBits 81 = .ok (.ladd, 1) := by decide +kernel
theorem dX6_doubleBits_82 : decode cX6_doubleBits 82 = .ok (.lreturn, 1) := by decide +kernel
theorem dJ5_init_d00df_0 : decode cJ5_init_d00df 0 = .ok (.aload_n 0, 1) := by decide +kernel
theorem dJ5_init_d00df_1 : decode cJ5_init_d00df 1 = .ok (.invokespecial 3, 3) := by decide +kernel
theorem dJ5_init_d00df_4 : decode cJ5_init_d00df 4 = .ok (.getstatic 18, 3) := by decide +kernel
theorem dJ5_init_d00df_7 : decode cJ5_init_d00df 7 = .ok (.ifCond .eq 18, 3) := by decide +kernel
theorem dJ5_init_d00df_10 : decode cJ5_init_d00df 10 = .ok (.aload_n 0, 1) := by decide +kernel
theorem dJ5_init_d00df_11 : decode cJ5_init_d00df 11 = .ok (.iload_n 1, 1) := by decide +kernel
theorem dJ5_init_d00df_12 : decode cJ5_init_d00df 12 = .ok (.newarray .byte, 2) := by decide +kernel
theorem dJ5_init_d00df_14 : decode cJ5_init_d00df 14 = .ok (.putfield 15, 3) := by decide +kernel
theorem dJ5_init_d00df_17 : decode cJ5_init_d00df 17 = .ok (.aload_n 0, 1) := by decide +kernel
theorem dJ5_init_d00df_18 : decode cJ5_init_d00df 18 = .ok (.iconst 0, 1) := by decide +kernel
theorem dJ5_init_d00df_19 : decode cJ5_init_d00df 19 = .ok (.putfield 22, 3) := by decide +kernel
theorem dJ5_init_d00df_22 : decode cJ5_init_d00df 22 = .ok (.goto 16, 3) := by decide +kernel
theorem dJ5_init_d00df_25 : decode cJ5_init_d00df 25 = .ok (.aload_n 0, 1) := by decide +kernel
theorem dJ5_init_d00df_26 : decode cJ5_init_d00df 26 = .ok (.iload_n 1, 1) := by decide +kernel
theorem dJ5_init_d00df_27 : decode cJ5_init_d00df 27 = .ok (.invokestatic 26, 3) := by decide +kernel
theorem dJ5_init_d00df_30 : decode cJ5_init_d00df 30 = .ok (.putfield 15, 3) := by decide +kernel
theorem dJ5_init_d00df_33 : decode cJ5_init_d00df 33 = .ok (.aload_n 0, 1) := by decide +kernel
theorem dJ5_init_d00df_34 : decode cJ5_init_d00df 34 = .ok (.iconst 1, 1) := by decide +kernel
theorem dJ5_init_d00df_35 : decode cJ5_init_d00df 35 = .ok (.putfield 22, 3) := by decide +kernel
theorem dJ5_init_d00df_38 : decode cJ5_init_d00df 38 = .ok (.return_, 1) := by decide +kernel
theorem dJ5_length_8abf5_0 : decode cJ5_length_8abf5 0 = .ok (.aload_n 0, 1) := by decide +kernel
theorem dJ5_length_8abf5_1 : decode cJ5_length_8abf5 1 = .ok (.getfield 79, 3) := by decide +kernel
theorem dJ5_length_8abf5_4 : decode cJ5_length_8abf5 4 = .ok (.ireturn, 1) := by decide +kernel
theorem dJ5_ensureCapacityInternal_d00df_0 : decode cJ5_ensureCapacityInternal_d00df 0 = .ok (.aload_n 0, 1) := by decide +kernel
theorem dJ5_ensureCapacityInternal_d00df_1 : decode cJ5_ensureCapacityInternal_d00df 1 = .ok (.getfield 15, 3) := by decide +kernel
theorem dJ5_ensureCapacityInternal_d00df_4 : decode cJ5_ensureCapacityInternal_d00df 4 = .ok (.arraylength, 1) := by decide +kernel
theorem dJ5_ensureCapacityInternal_d00df_5 : decode cJ5_ensureCapacityInternal_d00df 5 = .ok (.aload_n 0, 1) := by decide +kernel
theorem dJ5_ensureCapacityInternal_d00df_6 : decode cJ5_ensureCapacityInternal_d00df 6 = .ok (.getfield 22, 3) := by decide +kernel
theorem dJ5_ensureCapacityInternal_d00df_9 : decode cJ5_ensureCapacityInternal_d00df 9 = .ok (.ishr, 1) := by decide +kernel
theorem dJ5_ensureCapacityInternal_d00df_10 : decode cJ5_ensureCapacityInternal_d00df 10 = .ok (.istore_n 2, 1) := by decide +kernel
theorem dJ5_ensureCapacityInternal_d00df_11 : decode cJ5_ensureCapacityInternal_d00df 11 = .ok (.iload_n 1, 1) := by decide +kernel
theorem dJ5_ensureCapacityInternal_d00df_12 : decode cJ5_ensureCapacityInternal_d00df 12 = .ok (.iload_n 2, 1) := by decide +kernel
theorem dJ5_ensureCapacityInternal_d00df_13 : decode cJ5_ensureCapacityInternal_d00df 13 = .ok (.isub, 1) := by decide +kernel
theorem dJ5_ensureCapacityInternal_d00df_14 : decode cJ5_ensureCapacityInternal_d00df 14 = .ok (.ifCond .le 24, 3) := by decide +kernel
theorem dJ5_ensureCapacityInternal_d00df_17 : decode cJ5_ensureCapacityInternal_d00df 17 = .ok (.aload_n 0, 1) := by decide +kernel
theorem dJ5_ensureCapacityInternal_d00df_18 : decode cJ5_ensureCapacityInternal_d00df 18 = .ok (.aload_n 0, 1) := by decide +kernel
theorem dJ5_ensureCapacityInternal_d00df_19 : decode cJ5_ensureCapacityInternal_d00df 19 = .ok (.getfield 15, 3) := by decide +kernel
theorem dJ5_ensureCapacityInternal_d00df_22 : decode cJ5_ensureCapacityInternal_d00df 22 = .ok (.aload_n 0, 1) := by decide +kernel
theorem dJ5_ensureCapacityInternal_d00df_23 : decode cJ5_ensureCapacityInternal_d00df 23 = .ok (.iload_n 1, 1) := by decide +kernel
theorem dJ5_ensureCapacityInternal_d00df_24 : decode cJ5_ensureCapacityInternal_d00df 24 = .ok (.invokevirtual 104, 3) := by decide +kernel
theorem dJ5_ensureCapacityInternal_d00df_27 : decode cJ5_ensureCapacityInternal_d00df 27 = .ok (.aload_n 0, 1) := by decide +kernel
theorem dJ5_ensureCapacityInternal_d00df_28 : decode cJ5_ensureCapacityInternal_d00df 28 = .ok (.getfield 22, 3) := by decide +kernel
theorem dJ5_ensureCapacityInternal_d00df_31 : decode cJ5_ensureCapacityInternal_d00df 31 = .ok (.ishl, 1) := by decide +kernel
theorem dJ5_ensureCapacityInternal_d00df_32 : decode cJ5_ensureCapacityInternal_d00df 32 = .ok (.invokestatic 108, 3) := by decide +kernel
theorem dJ5_ensureCapacityInternal_d00df_35 : decode cJ5_ensureCapacityInternal_d00df 35 = .ok (.putfield 15, 3) := by decide +kernel
theorem dJ5_ensureCapacityInternal_d00df_38 : decode cJ5_ensureCapacityInternal_d00df 38 = .ok (.return_, 1) := by decide +kernel
theorem dJ5_append_cf1ce_0 : decode cJ5_append_cf1ce 0 = .ok (.aload_n 1, 1) := by decide +kernel
theorem dJ5_append_cf1ce_1 : decode cJ5_append_cf1ce 1 = .ok (.ifnonnull 8, 3) := by decide +kernel
theorem dJ5_append_cf1ce_4 : decode cJ5_append_cf1ce 4 = .ok (.aload_n 0, 1) := by decide +kernel
theorem dJ5_append_cf1ce_5 : decode cJ5_append_cf1ce 5 = .ok (.invokevirtual 204, 3) := by decide +kernel
theorem dJ5_append_cf1ce_8 : decode cJ5_append_cf1ce 8 = .ok (.areturn, 1) := by decide +kernel
theorem dJ5_append_cf1ce_9 : decode cJ5_append_cf1ce 9 = .ok (.aload_n 1, 1) := by decide +kernel
theorem dJ5_append_cf1ce_10 : decode cJ5_append_cf1ce 10 = .ok (.invokevirtual 32, 3) := by decide +kernel
theorem dJ5_append_cf1ce_13 : decode cJ5_append_cf1ce 13 = .ok (.istore_n 2, 1) := by decide +kernel
theorem dJ5_append_cf1ce_14 : decode cJ5_append_cf1ce 14 = .ok (.aload_n 0, 1) := by decide +kernel
theorem dJ5_append_cf1ce_15 : decode cJ5_append_cf1ce 15 = .ok (.aload_n 0, 1) := by decide +kernel
theorem dJ5_append_cf1ce_16 : decode cJ5_append_cf1ce 16 = .ok (.getfield 79, 3) := by decide +kernel
theorem dJ5_append_cf1ce_19 : decode cJ5_append_cf1ce 19 = .ok (.iload_n 2, 1) := by decide +kernel
theorem dJ5_append_cf1ce_20 : decode cJ5_append_cf1ce 20 = .ok (.iadd, 1) := by decide +kernel
theorem dJ5_append_cf1ce_21 : decode cJ5_append_cf1ce 21 = .ok (.invokevirtual 100, 3) := by decide +kernel
theorem dJ5_append_cf1ce_24 : decode cJ5_append_cf1ce 24 = .ok (.aload_n 0, 1) := by decide +kernel
theorem dJ5_append_cf1ce_25 : decode cJ5_append_cf1ce 25 = .ok (.aload_n 0, 1) := by decide +kernel
theorem dJ5_append_cf1ce_26 : decode cJ5_append_cf1ce 26 = .ok (.getfield 79, 3) := by decide +kernel
theorem dJ5_append_cf1ce_29 : decode cJ5_append_cf1ce 29 = .ok (.aload_n 1, 1) := by decide +kernel
theorem dJ5_append_cf1ce_30 : decode cJ5_append_cf1ce 30 = .ok (.invokevirtual 208, 3) := by decide +kernel
theorem dJ5_append_cf1ce_33 : decode cJ5_append_cf1ce 33 = .ok (.aload_n 0, 1) := by decide +kernel
theorem dJ5_append_cf1ce_34 : decode cJ5_append_cf1ce 34 = .ok (.dup, 1) := by decide +kernel
theorem dJ5_append_cf1ce_35 : decode cJ5_append_cf1ce 35 = .ok (.getfield 79, 3) := by decide +kernel
theorem dJ5_append_cf1ce_38 : decode cJ5_append_cf1ce 38 = .ok (.iload_n 2, 1) := by decide +kernel
theorem dJ5_append_cf1ce_39 : decode cJ5_append_cf1ce 39 = .ok (.iadd, 1) := by decide +kernel
theorem dJ5_append_cf1ce_40 : decode cJ5_append_cf1ce 40 = .ok (.putfield 79, 3) := by decide +kernel
theorem dJ5_append_cf1ce_43 : decode cJ5_append_cf1ce 43 = .ok (.aload_n 0, 1) := by decide +kernel
theorem dJ5_append_cf1ce_44 : decode cJ5_append_cf1ce 44 = .ok (.areturn, 1) := by decide +kernel
theorem dJ5_append_c97b9_0 : decode cJ5_append_c97b9 0 = .ok (.aload_n 0, 1) := by decide +kernel
theorem dJ5_append_c97b9_1 : decode cJ5_append_c97b9 1 = .ok (.getfield 79, 3) := by decide +kernel
theorem dJ5_append_c97b9_4 : decode cJ5_append_c97b9 4 = .ok (.istore_n 2, 1) := by decide +kernel
theorem dJ5_append_c97b9_5 : decode cJ5_append_c97b9 5 = .ok (.iload_n 2, 1) := by decide +kernel
theorem dJ5_append_c97b9_6 : decode cJ5_append_c97b9 6 = .ok (.iload_n 1, 1) := by decide +kernel
theorem dJ5_append_c97b9_7 : decode cJ5_append_c97b9 7 = .ok (.invokestatic 245, 3) := by decide +kernel
theorem dJ5_append_c97b9_10 : decode cJ5_append_c97b9 10 = .ok (.iadd, 1) := by decide +kernel
theorem dJ5_append_c97b9_11 : decode cJ5_append_c97b9 11 = .ok (.istore_n 3, 1) := by decide +kernel
theorem dJ5_append_c97b9_12 : decode cJ5_append_c97b9 12 = .ok (.aload_n 0, 1) := by decide +kernel
theorem dJ5_append_c97b9_13 : decode cJ5_append_c97b9 13 = .ok (.iload_n 3, 1) := by decide +kernel
theorem dJ5_append_c97b9_14 : decode cJ5_append_c97b9 14 = .ok (.invokevirtual 100, 3) := by decide +kernel
theorem dJ5_append_c97b9_17 : decode cJ5_append_c97b9 17 = .ok (.aload_n 0, 1) := by decide +kernel
theorem dJ5_append_c97b9_18 : decode cJ5_append_c97b9 18 = .ok (.invokevirtual 83, 3) := by decide +kernel
theorem dJ5_append_c97b9_21 : decode cJ5_append_c97b9 21 = .ok (.ifCond .eq 16, 3) := by decide +kernel
theorem dJ5_append_c97b9_24 : decode cJ5_append_c97b9 24 = .ok (.iload_n 1, 1) := by decide +kernel
theorem dJ5_append_c97b9_25 : decode cJ5_append_c97b9 25 = .ok (.iload_n 3, 1) := by decide +kernel
theorem dJ5_append_c97b9_26 : decode cJ5_append_c97b9 26 = .ok (.aload_n 0, 1) := by decide +kernel
theorem dJ5_append_c97b9_27 : decode cJ5_append_c97b9 27 = .ok (.getfield 15, 3) := by decide +kernel
theorem dJ5_append_c97b9_30 : decode cJ5_append_c97b9 30 = .ok (.invokestatic 248, 3) := by decide +kernel
theorem dJ5_append_c97b9_33 : decode cJ5_append_c97b9 33 = .ok (.pop, 1) := by decide +kernel
theorem dJ5_append_c97b9_34 : decode cJ5_append_c97b9 34 = .ok (.goto 14, 3) := by decide +kernel
theorem dJ5_append_c97b9_37 : decode cJ5_append_c97b9 37 = .ok (.iload_n 1, 1) := by decide +kernel
theorem dJ5_append_c97b9_38 : decode cJ5_append_c97b9 38 = .ok (.iload_n 2, 1) := by decide +kernel
theorem dJ5_append_c97b9_39 : decode cJ5_append_c97b9 39 = .ok (.iload_n 3, 1) := by decide +kernel
theorem dJ5_append_c97b9_40 : decode cJ5_append_c97b9 40 = .ok (.aload_n 0, 1) := by decide +kernel
theorem dJ5_append_c97b9_41 : decode cJ5_append_c97b9 41 = .ok (.getfield 15, 3) := by decide +kernel
theorem dJ5_append_c97b9_44 : decode cJ5_append_c97b9 44 = .ok (.invokestatic 251, 3) := by decide +kernel
theorem dJ5_append_c97b9_47 : decode cJ5_append_c97b9 47 = .ok (.pop, 1) := by decide +kernel
theorem dJ5_append_c97b9_48 : decode cJ5_append_c97b9 48 = .ok (.aload_n 0, 1) := by decide +kernel
theorem dJ5_append_c97b9_49 : decode cJ5_append_c97b9 49 = .ok (.iload_n 3, 1) := by decide +kernel
theorem dJ5_append_c97b9_50 : decode cJ5_append_c97b9 50 = .ok (.putfield 79, 3) := by decide +kernel
theorem dJ5_append_c97b9_53 : decode cJ5_append_c97b9 53 = .ok (.aload_n 0, 1) := by decide +kernel
theorem dJ5_append_c97b9_54 : decode cJ5_append_c97b9 54 = .ok (.areturn, 1) := by decide +kernel
theorem dJ5_getValue_6d5f1_0 : decode cJ5_getValue_6d5f1 0 = .ok (.aload_n 0, 1) := by decide +kernel
theorem dJ5_getValue_6d5f1_1 : decode cJ5_getValue_6d5f1 1 = .ok (.getfield 15, 3) := by decide +kernel
theorem dJ5_getValue_6d5f1_4 : decode cJ5_getValue_6d5f1 4 = .ok (.areturn, 1) := by decide +kernel
theorem dJ5_isLatin1_aae02_0 : decode cJ5_isLatin1_aae02 0 = .ok (.getstatic 18, 3) := by decide +kernel
theorem dJ5_isLatin1_aae02_3 : decode cJ5_isLatin1_aae02 3 = .ok (.ifCond .eq 14, 3) := by decide +kernel
theorem dJ5_isLatin1_aae02_6 : decode cJ5_isLatin1_aae02 6 = .ok (.aload_n 0, 1) := by decide +kernel
theorem dJ5_isLatin1_aae02_7 : decode cJ5_isLatin1_aae02 7 = .ok (.getfield 22, 3) := by decide +kernel
theorem dJ5_isLatin1_aae02_10 : decode cJ5_isLatin1_aae02 10 = .ok (.ifCond .ne 7, 3) := by decide +kernel
theorem dJ5_isLatin1_aae02_13 : decode cJ5_isLatin1_aae02 13 = .ok (.iconst 1, 1) := by decide +kernel
theorem dJ5_isLatin1_aae02_14 : decode cJ5_isLatin1_aae02 14 = .ok (.goto 4, 3) := by decide +kernel
theorem dJ5_isLatin1_aae02_17 : decode cJ5_isLatin1_aae02 17 = .ok (.iconst 0, 1) := by decide +kernel
theorem dJ5_isLatin1_aae02_18 : decode cJ5_isLatin1_aae02 18 = .ok (.ireturn, 1) := by decide +kernel
theorem dJ5_inflateIfNeededFor_a7421_0 : decode cJ5_inflateIfNeededFor_a7421 0 = .ok (.getstatic 18, 3) := by decide +kernel
theorem dJ5_inflateIfNeededFor_a7421_3 : decode cJ5_inflateIfNeededFor_a7421 3 = .ok (.ifCond .eq 18, 3) := by decide +kernel
theorem dJ5_inflateIfNeededFor_a7421_6 : decode cJ5_inflateIfNeededFor_a7421 6 = .ok (.aload_n 0, 1) := by decide +kernel
theorem dJ5_inflateIfNeededFor_a7421_7 : decode cJ5_inflateIfNeededFor_a7421 7 = .ok (.getfield 22, 3) := by decide +kernel
theorem dJ5_inflateIfNeededFor_a7421_10 : decode cJ5_inflateIfNeededFor_a7421 10 = .ok (.aload_n 1, 1) := by decide +kernel
theorem dJ5_inflateIfNeededFor_a7421_11 : decode cJ5_inflateIfNeededFor_a7421 11 = .ok (.invokevirtual 40, 3) := by decide +kernel
theorem dJ5_inflateIfNeededFor_a7421_14 : decode cJ5_inflateIfNeededFor_a7421 14 = .ok (.if_icmp .eq 7, 3) := by decide +kernel
theorem dJ5_inflateIfNeededFor_a7421_17 : decode cJ5_inflateIfNeededFor_a7421 17 = .ok (.aload_n 0, 1) := by decide +kernel
theorem dJ5_inflateIfNeededFor_a7421_18 : decode cJ5_inflateIfNeededFor_a7421 18 = .ok (.invokevirtual 195, 3) := by decide +kernel
theorem dJ5_inflateIfNeededFor_a7421_21 : decode cJ5_inflateIfNeededFor_a7421 21 = .ok (.return_, 1) := by decide +kernel
theorem dJ5_putStringAt_47b60_0 : decode cJ5_putStringAt_47b60 0 = .ok (.aload_n 0, 1) := by decide +kernel
theorem dJ5_putStringAt_47b60_1 : decode cJ5_putStringAt_47b60 1 = .ok (.aload_n 2, 1) := by decide +kernel
theorem dJ5_putStringAt_47b60_2 : decode cJ5_putStringAt_47b60 2 = .ok (.invokevirtual 397, 3) := by decide +kernel
theorem dJ5_putStringAt_47b60_5 : decode cJ5_putStringAt_47b60 5 = .ok (.aload_n 2, 1) := by decide +kernel
theorem dJ5_putStringAt_47b60_6 : decode cJ5_putStringAt_47b60 6 = .ok (.aload_n 0, 1) := by decide +kernel
theorem dJ5_putStringAt_47b60_7 : decode cJ5_putStringAt_47b60 7 = .ok (.getfield 15, 3) := by decide +kernel
theorem dJ5_putStringAt_47b60_10 : decode cJ5_putStringAt_47b60 10 = .ok (.iload_n 1, 1) := by decide +kernel
theorem dJ5_putStringAt_47b60_11 : decode cJ5_putStringAt_47b60 11 = .ok (.aload_n 0, 1) := by decide +kernel
theorem dJ5_putStringAt_47b60_12 : decode cJ5_putStringAt_47b60 12 = .ok (.getfield 22, 3) := by decide +kernel
theorem dJ5_putStringAt_47b60_15 : decode cJ5_putStringAt_47b60 15 = .ok (.invokevirtual 399, 3) := by decide +kernel
theorem dJ5_putStringAt_47b60_18 : decode cJ5_putStringAt_47b60 18 = .ok (.return_, 1) := by decide +kernel
theorem dJx00060_init_a7421_0 : decode cJx00060_init_a7421 0 = .ok (.aload_n 0, 1) := by decide +kernel
theorem dJx00060_init_a7421_1 : decode cJx00060_init_a7421 1 = .ok (.aload_n 1, 1) := by decide +kernel
theorem dJx00060_init_a7421_2 : decode cJx00060_init_a7421 2 = .ok (.invokespecial 7, 3) := by decide +kernel
theorem dJx00060_init_a7421_5 : decode cJx00060_init_a7421 5 = .ok (.return_, 1) := by decide +kernel
theorem dJxe99ae_isNaN_b9ae7_0 : decode cJxe99ae_isNaN_b9ae7 0 = .ok (.dload_n 0, 1) := by decide +kernel
theorem dJxe99ae_isNaN_b9ae7_1 : decode cJxe99ae_isNaN_b9ae7 1 = .ok (.dload_n 0, 1) := by decide +kernel
theorem dJxe99ae_isNaN_b9ae7_2 : decode cJxe99ae_isNaN_b9ae7 2 = .ok (.dcmp .l, 1) := by decide +kernel
theorem dJxe99ae_isNaN_b9ae7_3 : decode cJxe99ae_isNaN_b9ae7 3 = .ok (.ifCond .eq 7, 3) := by decide +kernel
theorem dJxe99ae_isNaN_b9ae7_6 : decode cJxe99ae_isNaN_b9ae7 6 = .ok (.iconst 1, 1) := by decide +kernel
theorem dJxe99ae_isNaN_b9ae7_7 : decode cJxe99ae_isNaN_b9ae7 7 = .ok (.goto 4, 3) := by decide +kernel
theorem dJxe99ae_isNaN_b9ae7_10 : decode cJxe99ae_isNaN_b9ae7 10 = .ok (.iconst 0, 1) := by decide +kernel
theorem dJxe99ae_isNaN_b9ae7_11 : decode cJxe99ae_isNaN_b9ae7 11 = .ok (.ireturn, 1) := by decide +kernel
theorem dJxe99ae_doubleToLongBits_ccdee_0 : decode cJxe99ae_doubleToLongBits_ccdee 0 = .ok (.dload_n 0, 1) := by decide +kernel
theorem dJxe99ae_doubleToLongBits_ccdee_1 : decode cJxe99ae_doubleToLongBits_ccdee 1 = .ok (.invokestatic 122, 3) := by decide +kernel
theorem dJxe99ae_doubleToLongBits_ccdee_4 : decode cJxe99ae_doubleToLongBits_ccdee 4 = .ok (.ifCond .ne 8, 3) := by decide +kernel
theorem dJxe99ae_doubleToLongBits_ccdee_7 : decode cJxe99ae_doubleToLongBits_ccdee 7 = .ok (.dload_n 0, 1) := by decide +kernel
theorem dJxe99ae_doubleToLongBits_ccdee_8 : decode cJxe99ae_doubleToLongBits_ccdee 8 = .ok (.invokestatic 134, 3) := by decide +kernel
theorem dJxe99ae_doubleToLongBits_ccdee_11 : decode cJxe99ae_doubleToLongBits_ccdee 11 = .ok (.lreturn, 1) := by decide +kernel
theorem dJxe99ae_doubleToLongBits_ccdee_12 : decode cJxe99ae_doubleToLongBits_ccdee 12 = .ok (.ldc2_w 137, 3) := by decide +kernel
theorem dJxe99ae_doubleToLongBits_ccdee_15 : decode cJxe99ae_doubleToLongBits_ccdee 15 = .ok (.lreturn, 1) := by decide +kernel
theorem dJxf58ca_isNaN_12338_0 : decode cJxf58ca_isNaN_12338 0 = .ok (.fload_n 0, 1) := by decide +kernel
theorem dJxf58ca_isNaN_12338_1 : decode cJxf58ca_isNaN_12338 1 = .ok (.fload_n 0, 1) := by decide +kernel
theorem dJxf58ca_isNaN_12338_2 : decode cJxf58ca_isNaN_12338 2 = .ok (.fcmp .l, 1) := by decide +kernel
theorem dJxf58ca_isNaN_12338_3 : decode cJxf58ca_isNaN_12338 3 = .ok (.ifCond .eq 7, 3) := by decide +kernel
theorem dJxf58ca_isNaN_12338_6 : decode cJxf58ca_isNaN_12338 6 = .ok (.iconst 1, 1) := by decide +kernel
theorem dJxf58ca_isNaN_12338_7 : decode cJxf58ca_isNaN_12338 7 = .ok (.goto 4, 3) := by decide +kernel
theorem dJxf58ca_isNaN_12338_10 : decode cJxf58ca_isNaN_12338 10 = .ok (.iconst 0, 1) := by decide +kernel
theorem dJxf58ca_isNaN_12338_11 : decode cJxf58ca_isNaN_12338 11 = .ok (.ireturn, 1) := by decide +kernel
theorem dJxf58ca_floatToIntBits_5c35a_0 : decode cJxf58ca_floatToIntBits_5c35a 0 = .ok (.fload_n 0, 1) := by decide +kernel
theorem dJxf58ca_floatToIntBits_5c35a_1 : decode cJxf58ca_floatToIntBits_5c35a 1 = .ok (.invokestatic 59, 3) := by decide +kernel
theorem dJxf58ca_floatToIntBits_5c35a_4 : decode cJxf58ca_floatToIntBits_5c35a 4 = .ok (.ifCond .ne 8, 3) := by decide +kernel
theorem dJxf58ca_floatToIntBits_5c35a_7 : decode cJxf58ca_floatToIntBits_5c35a 7 = .ok (.fload_n 0, 1) := by decide +kernel
theorem dJxf58ca_floatToIntBits_5c35a_8 : decode cJxf58ca_floatToIntBits_5c35a 8 = .ok (.invokestatic 74, 3) := by decide +kernel
theorem dJxf58ca_floatToIntBits_5c35a_11 : decode cJxf58ca_floatToIntBits_5c35a 11 = .ok (.ireturn, 1) := by decide +kernel
theorem dJxf58ca_floatToIntBits_5c35a_12 : decode cJxf58ca_floatToIntBits_5c35a 12 = .ok (.ldc 77, 2) := by decide +kernel
theorem dJxf58ca_floatToIntBits_5c35a_14 : decode cJxf58ca_floatToIntBits_5c35a 14 = .ok (.ireturn, 1) := by decide +kernel
theorem dJ6_getChars_ba4f3_0 : decode cJ6_getChars_ba4f3 0 = .ok (.iload_n 1, 1) := by decide +kernel
theorem dJ6_getChars_ba4f3_1 : decode cJ6_getChars_ba4f3 1 = .ok (.istore 5, 2) := by decide +kernel
theorem dJ6_getChars_ba4f3_3 : decode cJ6_getChars_ba4f3 3 = .ok (.iload_n 0, 1) := by decide +kernel
theorem dJ6_getChars_ba4f3_4 : decode cJ6_getChars_ba4f3 4 = .ok (.ifCond .ge 7, 3) := by decide +kernel
theorem dJ6_getChars_ba4f3_7 : decode cJ6_getChars_ba4f3 7 = .ok (.iconst 1, 1) := by decide +kernel
theorem dJ6_getChars_ba4f3_8 : decode cJ6_getChars_ba4f3 8 = .ok (.goto 4, 3) := by decide +kernel
theorem dJ6_getChars_ba4f3_11 : decode cJ6_getChars_ba4f3 11 = .ok (.iconst 0, 1) := by decide +kernel
theorem dJ6_getChars_ba4f3_12 : decode cJ6_getChars_ba4f3 12 = .ok (.istore 6, 2) := by decide +kernel
theorem dJ6_getChars_ba4f3_14 : decode cJ6_getChars_ba4f3 14 = .ok (.iload 6, 2) := by decide +kernel
theorem dJ6_getChars_ba4f3_16 : decode cJ6_getChars_ba4f3 16 = .ok (.ifCond .ne 6, 3) := by decide +kernel
theorem dJ6_getChars_ba4f3_19 : decode cJ6_getChars_ba4f3 19 = .ok (.iload_n 0, 1) := by decide +kernel
theorem dJ6_getChars_ba4f3_20 : decode cJ6_getChars_ba4f3 20 = .ok (.ineg, 1) := by decide +kernel
theorem dJ6_getChars_ba4f3_21 : decode cJ6_getChars_ba4f3 21 = .ok (.istore_n 0, 1) := by decide +kernel
theorem dJ6_getChars_ba4f3_22 : decode cJ6_getChars_ba4f3 22 = .ok (.iload_n 0, 1) := by decide +kernel
theorem dJ6_getChars_ba4f3_23 : decode cJ6_getChars_ba4f3 23 = .ok (.bipush (-100), 2) := by decide +kernel
theorem dJ6_getChars_ba4f3_25 : decode cJ6_getChars_ba4f3 25 = .ok (.if_icmp .gt 47, 3) := by decide +kernel
theorem dJ6_getChars_ba4f3_28 : decode cJ6_getChars_ba4f3 28 = .ok (.iload_n 0, 1) := by decide +kernel
theorem dJ6_getChars_ba4f3_29 : decode cJ6_getChars_ba4f3 29 = .ok (.bipush 100, 2) := by decide +kernel
theorem dJ6_getChars_ba4f3_31 : decode cJ6_getChars_ba4f3 31 = .ok (.idiv, 1) := by decide +kernel
theorem dJ6_getChars_ba4f3_32 : decode cJ6_getChars_ba4f3 32 = .ok (.istore_n 3, 1) := by decide +kernel
theorem dJ6_getChars_ba4f3_33 : decode cJ6_getChars_ba4f3 33 = .ok (.iload_n 3, 1) := by decide +kernel
theorem dJ6_getChars_ba4f3_34 : decode cJ6_getChars_ba4f3 34 = .ok (.bipush 100, 2) := by decide +kernel
theorem dJ6_getChars_ba4f3_36 : decode cJ6_getChars_ba4f3 36 = .ok (.imul, 1) := by decide +kernel
theorem dJ6_getChars_ba4f3_37 : decode cJ6_getChars_ba4f3 37 = .ok (.iload_n 0, 1) := by decide +kernel
theorem dJ6_getChars_ba4f3_38 : decode cJ6_getChars_ba4f3 38 = .ok (.isub, 1) := by decide +kernel
theorem dJ6_getChars_ba4f3_39 : decode cJ6_getChars_ba4f3 39 = .ok (.istore 4, 2) := by decide +kernel
theorem dJ6_getChars_ba4f3_41 : decode cJ6_getChars_ba4f3 41 = .ok (.iload_n 3, 1) := by decide +kernel
theorem dJ6_getChars_ba4f3_42 : decode cJ6_getChars_ba4f3 42 = .ok (.istore_n 0, 1) := by decide +kernel
theorem dJ6_getChars_ba4f3_43 : decode cJ6_getChars_ba4f3 43 = .ok (.aload_n 2, 1) := by decide +kernel
theorem dJ6_getChars_ba4f3_44 : decode cJ6_getChars_ba4f3 44 = .ok (.iinc 5 (-1), 3) := by decide +kernel
theorem dJ6_getChars_ba4f3_47 : decode cJ6_getChars_ba4f3 47 = .ok (.iload 5, 2) := by decide +kernel
theorem dJ6_getChars_ba4f3_49 : decode cJ6_getChars_ba4f3 49 = .ok (.getstatic 83, 3) := by decide +kernel
theorem dJ6_getChars_ba4f3_52 : decode cJ6_getChars_ba4f3 52 = .ok (.iload 4, 2) := by decide +kernel
theorem dJ6_getChars_ba4f3_54 : decode cJ6_getChars_ba4f3 54 = .ok (.baload, 1) := by decide +kernel
theorem dJ6_getChars_ba4f3_55 : decode cJ6_getChars_ba4f3 55 = .ok (.bastore, 1) := by decide +kernel
theorem dJ6_getChars_ba4f3_56 : decode cJ6_getChars_ba4f3 56 = .ok (.aload_n 2, 1) := by decide +kernel
theorem dJ6_getChars_ba4f3_57 : decode cJ6_getChars_ba4f3 57 = .ok (.iinc 5 (-1), 3) := by decide +kernel
theorem dJ6_getChars_ba4f3_60 : decode cJ6_getChars_ba4f3 60 = .ok (.iload 5, 2) := by decide +kernel
theorem dJ6_getChars_ba4f3_62 : decode cJ6_getChars_ba4f3 62 = .ok (.getstatic 87, 3) := by decide +kernel
theorem dJ6_getChars_ba4f3_65 : decode cJ6_getChars_ba4f3 65 = .ok (.iload 4, 2) := by decide +kernel
theorem dJ6_getChars_ba4f3_67 : decode cJ6_getChars_ba4f3 67 = .ok (.baload, 1) := by decide +kernel
theorem dJ6_getChars_ba4f3_68 : decode cJ6_getChars_ba4f3 68 = .ok (.bastore, 1) := by decide +kernel
theorem dJ6_getChars_ba4f3_69 : decode cJ6_getChars_ba4f3 69 = .ok (.goto (-47), 3) := by decide +kernel
theorem dJ6_getChars_ba4f3_72 : decode cJ6_getChars_ba4f3 72 = .ok (.aload_n 2, 1) := by decide +kernel
theorem dJ6_getChars_ba4f3_73 : decode cJ6_getChars_ba4f3 73 = .ok (.iinc 5 (-1), 3) := by decide +kernel
theorem dJ6_getChars_ba4f3_76 : decode cJ6_getChars_ba4f3 76 = .ok (.iload 5, 2) := by decide +kernel
theorem dJ6_getChars_ba4f3_78 : decode cJ6_getChars_ba4f3 78 = .ok (.getstatic 83, 3) := by decide +kernel
theorem dJ6_getChars_ba4f3_81 : decode cJ6_getChars_ba4f3 81 = .ok (.iload_n 0, 1) := by decide +kernel
theorem dJ6_getChars_ba4f3_82 : decode cJ6_getChars_ba4f3 82 = .ok (.ineg, 1) := by decide +kernel
theorem dJ6_getChars_ba4f3_83 : decode cJ6_getChars_ba4f3 83 = .ok (.baload, 1) := by decide +kernel
theorem dJ6_getChars_ba4f3_84 : decode cJ6_getChars_ba4f3 84 = .ok (.bastore, 1) := by decide +kernel
theorem dJ6_getChars_ba4f3_85 : decode cJ6_getChars_ba4f3 85 = .ok (.iload_n 0, 1) := by decide +kernel
theorem dJ6_getChars_ba4f3_86 : decode cJ6_getChars_ba4f3 86 = .ok (.bipush (-9), 2) := by decide +kernel
theorem dJ6_getChars_ba4f3_88 : decode cJ6_getChars_ba4f3 88 = .ok (.if_icmp .ge 16, 3) := by decide +kernel
theorem dJ6_getChars_ba4f3_91 : decode cJ6_getChars_ba4f3 91 = .ok (.aload_n 2, 1) := by decide +kernel
theorem dJ6_getChars_ba4f3_92 : decode cJ6_getChars_ba4f3 92 = .ok (.iinc 5 (-1), 3) := by decide +kernel
theorem dJ6_getChars_ba4f3_95 : decode cJ6_getChars_ba4f3 95 = .ok (.iload 5, 2) := by decide +kernel
theorem dJ6_getChars_ba4f3_97 : decode cJ6_getChars_ba4f3 97 = .ok (.getstatic 87, 3) := by decide +kernel
theorem dJ6_getChars_ba4f3_100 : decode cJ6_getChars_ba4f3 100 = .ok (.iload_n 0, 1) := by decide +kernel
theorem dJ6_getChars_ba4f3_101 : decode cJ6_getChars_ba4f3 101 = .ok (.ineg, 1) := by decide +kernel
theorem dJ6_getChars_ba4f3_102 : decode cJ6_getChars_ba4f3 102 = .ok (.baload, 1) := by decide +kernel
theorem dJ6_getChars_ba4f3_103 : decode cJ6_getChars_ba4f3 103 = .ok (.bastore, 1) := by decide +kernel
theorem dJ6_getChars_ba4f3_104 : decode cJ6_getChars_ba4f3 104 = .ok (.iload 6, 2) := by decide +kernel
theorem dJ6_getChars_ba4f3_106 : decode cJ6_getChars_ba4f3 106 = .ok (.ifCond .eq 12, 3) := by decide +kernel
theorem dJ6_getChars_ba4f3_109 : decode cJ6_getChars_ba4f3 109 = .ok (.aload_n 2, 1) := by decide +kernel
theorem dJ6_getChars_ba4f3_110 : decode cJ6_getChars_ba4f3 110 = .ok (.iinc 5 (-1), 3) := by decide +kernel
theorem dJ6_getChars_ba4f3_113 : decode cJ6_getChars_ba4f3 113 = .ok (.iload 5, 2) := by decide +kernel
theorem dJ6_getChars_ba4f3_115 : decode cJ6_getChars_ba4f3 115 = .ok (.bipush 45, 2) := by decide +kernel
theorem dJ6_getChars_ba4f3_117 : decode cJ6_getChars_ba4f3 117 = .ok (.bastore, 1) := by decide +kernel
theorem dJ6_getChars_ba4f3_118 : decode cJ6_getChars_ba4f3 118 = .ok (.iload 5, 2) := by decide +kernel
theorem dJ6_getChars_ba4f3_120 : decode cJ6_getChars_ba4f3 120 = .ok (.ireturn, 1) := by decide +kernel
theorem dJ6_stringSize_0f7a4_0 : decode cJ6_stringSize_0f7a4 0 = .ok (.iconst 1, 1) := by decide +kernel
theorem dJ6_stringSize_0f7a4_1 : decode cJ6_stringSize_0f7a4 1 = .ok (.istore_n 1, 1) := by decide +kernel
theorem dJ6_stringSize_0f7a4_2 : decode cJ6_stringSize_0f7a4 2 = .ok (.iload_n 0, 1) := by decide +kernel
theorem dJ6_stringSize_0f7a4_3 : decode cJ6_stringSize_0f7a4 3 = .ok (.ifCond .lt 8, 3) := by decide +kernel
theorem dJ6_stringSize_0f7a4_6 : decode cJ6_stringSize_0f7a4 6 = .ok (.iconst 0, 1) := by decide +kernel
theorem dJ6_stringSize_0f7a4_7 : decode cJ6_stringSize_0f7a4 7 = .ok (.istore_n 1, 1) := by decide +kernel
theorem dJ6_stringSize_0f7a4_8 : decode cJ6_stringSize_0f7a4 8 = .ok (.iload_n 0, 1) := by decide +kernel
theorem dJ6_stringSize_0f7a4_9 : decode cJ6_stringSize_0f7a4 9 = .ok (.ineg, 1) := by decide +kernel
theorem dJ6_stringSize_0f7a4_10 : decode cJ6_stringSize_0f7a4 10 = .ok (.istore_n 0, 1) := by decide +kernel
theorem dJ6_stringSize_0f7a4_11 : decode cJ6_stringSize_0f7a4 11 = .ok (.bipush (-10), 2) := by decide +kernel
theorem dJ6_stringSize_0f7a4_13 : decode cJ6_stringSize_0f7a4 13 = .ok (.istore_n 2, 1) := by decide +kernel
theorem dJ6_stringSize_0f7a4_14 : decode cJ6_stringSize_0f7a4 14 = .ok (.iconst 1, 1) := by decide +kernel
theorem dJ6_stringSize_0f7a4_15 : decode cJ6_stringSize_0f7a4 15 = .ok (.istore_n 3, 1) := by decide +kernel
theorem dJ6_stringSize_0f7a4_16 : decode cJ6_stringSize_0f7a4 16 = .ok (.iload_n 3, 1) := by decide +kernel
theorem dJ6_stringSize_0f7a4_17 : decode cJ6_stringSize_0f7a4 17 = .ok (.bipush 10, 2) := by decide +kernel
theorem dJ6_stringSize_0f7a4_19 : decode cJ6_stringSize_0f7a4 19 = .ok (.if_icmp .ge 23, 3) := by decide +kernel
theorem dJ6_stringSize_0f7a4_22 : decode cJ6_stringSize_0f7a4 22 = .ok (.iload_n 0, 1) := by decide +kernel
theorem dJ6_stringSize_0f7a4_23 : decode cJ6_stringSize_0f7a4 23 = .ok (.iload_n 2, 1) := by decide +kernel
theorem dJ6_stringSize_0f7a4_24 : decode cJ6_stringSize_0f7a4 24 = .ok (.if_icmp .le 7, 3) := by decide +kernel
theorem dJ6_stringSize_0f7a4_27 : decode cJ6_stringSize_0f7a4 27 = .ok (.iload_n 3, 1) := by decide +kernel
theorem dJ6_stringSize_0f7a4_28 : decode cJ6_stringSize_0f7a4 28 = .ok (.iload_n 1, 1) := by decide +kernel
theorem dJ6_stringSize_0f7a4_29 : decode cJ6_stringSize_0f7a4 29 = .ok (.iadd, 1) := by decide +kernel
theorem dJ6_stringSize_0f7a4_30 : decode cJ6_stringSize_0f7a4 30 = .ok (.ireturn, 1) := by decide +kernel
theorem dJ6_stringSize_0f7a4_31 : decode cJ6_stringSize_0f7a4 31 = .ok (.bipush 10, 2) := by decide +kernel
theorem dJ6_stringSize_0f7a4_33 : decode cJ6_stringSize_0f7a4 33 = .ok (.iload_n 2, 1) := by decide +kernel
theorem dJ6_stringSize_0f7a4_34 : decode cJ6_stringSize_0f7a4 34 = .ok (.imul, 1) := by decide +kernel
theorem dJ6_stringSize_0f7a4_35 : decode cJ6_stringSize_0f7a4 35 = .ok (.istore_n 2, 1) := by decide +kernel
theorem dJ6_stringSize_0f7a4_36 : decode cJ6_stringSize_0f7a4 36 = .ok (.iinc 3 1, 3) := by decide +kernel
theorem dJ6_stringSize_0f7a4_39 : decode cJ6_stringSize_0f7a4 39 = .ok (.goto (-23), 3) := by decide +kernel
theorem dJ6_stringSize_0f7a4_42 : decode cJ6_stringSize_0f7a4 42 = .ok (.bipush 10, 2) := by decide +kernel
theorem dJ6_stringSize_0f7a4_44 : decode cJ6_stringSize_0f7a4 44 = .ok (.iload_n 1, 1) := by decide +kernel
theorem dJ6_stringSize_0f7a4_45 : decode cJ6_stringSize_0f7a4 45 = .ok (.iadd, 1) := by decide +kernel
theorem dJ6_stringSize_0f7a4_46 : decode cJ6_stringSize_0f7a4 46 = .ok (.ireturn, 1) := by decide +kernel
theorem dJ0_init_81219_0 : decode cJ0_init_81219 0 = .ok (.aload_n 0, 1) := by decide +kernel
theorem dJ0_init_81219_1 : decode cJ0_init_81219 1 = .ok (.aload_n 1, 1) := by decide +kernel
theorem dJ0_init_81219_2 : decode cJ0_init_81219 2 = .ok (.aconst_null, 1) := by decide +kernel
theorem dJ0_init_81219_3 : decode cJ0_init_81219 3 = .ok (.invokespecial 489, 3) := by decide +kernel
theorem dJ0_init_81219_6 : decode cJ0_init_81219 6 = .ok (.return_, 1) := by decide +kernel
theorem dJ0_length_8abf5_0 : decode cJ0_length_8abf5 0 = .ok (.aload_n 0, 1) := by decide +kernel
theorem dJ0_length_8abf5_1 : decode cJ0_length_8abf5 1 = .ok (.getfield 9, 3) := by decide +kernel
theorem dJ0_length_8abf5_4 : decode cJ0_length_8abf5 4 = .ok (.arraylength, 1) := by decide +kernel
theorem dJ0_length_8abf5_5 : decode cJ0_length_8abf5 5 = .ok (.aload_n 0, 1) := by decide +kernel
theorem dJ0_length_8abf5_6 : decode cJ0_length_8abf5 6 = .ok (.invokevirtual 335, 3) := by decide +kernel
theorem dJ0_length_8abf5_9 : decode cJ0_length_8abf5 9 = .ok (.ishr, 1) := by decide +kernel
theorem dJ0_length_8abf5_10 : decode cJ0_length_8abf5 10 = .ok (.ireturn, 1) := by decide +kernel
theorem dJ0_charAt_5068e_0 : decode cJ0_charAt_5068e 0 = .ok (.aload_n 0, 1) := by decide +kernel
theorem dJ0_charAt_5068e_1 : decode cJ0_charAt_5068e 1 = .ok (.invokevirtual 492, 3) := by decide +kernel
theorem dJ0_charAt_5068e_4 : decode cJ0_charAt_5068e 4 = .ok (.ifCond .eq 12, 3) := by decide +kernel
theorem dJ0_charAt_5068e_7 : decode cJ0_charAt_5068e 7 = .ok (.aload_n 0, 1) := by decide +kernel
theorem dJ0_charAt_5068e_8 : decode cJ0_charAt_5068e 8 = .ok (.getfield 9, 3) := by decide +kernel
theorem dJ0_charAt_5068e_11 : decode cJ0_charAt_5068e 11 = .ok (.iload_n 1, 1) := by decide +kernel
theorem dJ0_charAt_5068e_12 : decode cJ0_charAt_5068e 12 = .ok (.invokestatic 495, 3) := by decide +kernel
theorem dJ0_charAt_5068e_15 : decode cJ0_charAt_5068e 15 = .ok (.ireturn, 1) := by decide +kernel
theorem dJ0_charAt_5068e_16 : decode cJ0_charAt_5068e 16 = .ok (.aload_n 0, 1) := by decide +kernel
theorem dJ0_charAt_5068e_17 : decode cJ0_charAt_5068e 17 = .ok (.getfield 9, 3) := by decide +kernel
theorem dJ0_charAt_5068e_20 : decode cJ0_charAt_5068e 20 = .ok (.iload_n 1, 1) := by decide +kernel
theorem dJ0_charAt_5068e_21 : decode cJ0_charAt_5068e 21 = .ok (.invokestatic 498, 3) := by decide +kernel
theorem dJ0_charAt_5068e_24 : decode cJ0_charAt_5068e 24 = .ok (.ireturn, 1) := by decide +kernel
theorem dJ0_getBytes_840e7_0 : decode cJ0_getBytes_840e7 0 = .ok (.aload_n 0, 1) := by decide +kernel
theorem dJ0_getBytes_840e7_1 : decode cJ0_getBytes_840e7 1 = .ok (.invokevirtual 335, 3) := by decide +kernel
theorem dJ0_getBytes_840e7_4 : decode cJ0_getBytes_840e7 4 = .ok (.iload_n 3, 1) := by decide +kernel
theorem dJ0_getBytes_840e7_5 : decode cJ0_getBytes_840e7 5 = .ok (.if_icmp .ne 23, 3) := by decide +kernel
theorem dJ0_getBytes_840e7_8 : decode cJ0_getBytes_840e7 8 = .ok (.aload_n 0, 1) := by decide +kernel
theorem dJ0_getBytes_840e7_9 : decode cJ0_getBytes_840e7 9 = .ok (.getfield 9, 3) := by decide +kernel
theorem dJ0_getBytes_840e7_12 : decode cJ0_getBytes_840e7 12 = .ok (.iconst 0, 1) := by decide +kernel
theorem dJ0_getBytes_840e7_13 : decode cJ0_getBytes_840e7 13 = .ok (.aload_n 1, 1) := by decide +kernel
theorem dJ0_getBytes_840e7_14 : decode cJ0_getBytes_840e7 14 = .ok (.iload_n 2, 1) := by decide +kernel
theorem dJ0_getBytes_840e7_15 : decode cJ0_getBytes_840e7 15 = .ok (.iload_n 3, 1) := by decide +kernel
theorem dJ0_getBytes_840e7_16 : decode cJ0_getBytes_840e7 16 = .ok (.ishl, 1) := by decide +kernel
theorem dJ0_getBytes_840e7_17 : decode cJ0_getBytes_840e7 17 = .ok (.aload_n 0, 1) := by decide +kernel
theorem dJ0_getBytes_840e7_18 : decode cJ0_getBytes_840e7 18 = .ok (.getfield 9, 3) := by decide +kernel
theorem dJ0_getBytes_840e7_21 : decode cJ0_getBytes_840e7 21 = .ok (.arraylength, 1) := by decide +kernel
theorem dJ0_getBytes_840e7_22 : decode cJ0_getBytes_840e7 22 = .ok (.invokestatic 212, 3) := by decide +kernel
theorem dJ0_getBytes_840e7_25 : decode cJ0_getBytes_840e7 25 = .ok (.goto 18, 3) := by decide +kernel
theorem dJ0_getBytes_840e7_28 : decode cJ0_getBytes_840e7 28 = .ok (.aload_n 0, 1) := by decide +kernel
theorem dJ0_getBytes_840e7_29 : decode cJ0_getBytes_840e7 29 = .ok (.getfield 9, 3) := by decide +kernel
theorem dJ0_getBytes_840e7_32 : decode cJ0_getBytes_840e7 32 = .ok (.iconst 0, 1) := by decide +kernel
theorem dJ0_getBytes_840e7_33 : decode cJ0_getBytes_840e7 33 = .ok (.aload_n 1, 1) := by decide +kernel
theorem dJ0_getBytes_840e7_34 : decode cJ0_getBytes_840e7 34 = .ok (.iload_n 2, 1) := by decide +kernel
theorem dJ0_getBytes_840e7_35 : decode cJ0_getBytes_840e7 35 = .ok (.aload_n 0, 1) := by decide +kernel
theorem dJ0_getBytes_840e7_36 : decode cJ0_getBytes_840e7 36 = .ok (.getfield 9, 3) := by decide +kernel
theorem dJ0_getBytes_840e7_39 : decode cJ0_getBytes_840e7 39 = .ok (.arraylength, 1) := by decide +kernel
theorem dJ0_getBytes_840e7_40 : decode cJ0_getBytes_840e7 40 = .ok (.invokestatic 106, 3) := by decide +kernel
theorem dJ0_getBytes_840e7_43 : decode cJ0_getBytes_840e7 43 = .ok (.return_, 1) := by decide +kernel
theorem dJ0_init_db425_0 : decode cJ0_init_db425 0 = .ok (.aload_n 0, 1) := by decide +kernel
theorem dJ0_init_db425_1 : decode cJ0_init_db425 1 = .ok (.invokespecial 1, 3) := by decide +kernel
theorem dJ0_init_db425_4 : decode cJ0_init_db425 4 = .ok (.aload_n 1, 1) := by decide +kernel
theorem dJ0_init_db425_5 : decode cJ0_init_db425 5 = .ok (.invokevirtual 552, 3) := by decide +kernel
theorem dJ0_init_db425_8 : decode cJ0_init_db425 8 = .ok (.astore_n 3, 1) := by decide +kernel
theorem dJ0_init_db425_9 : decode cJ0_init_db425 9 = .ok (.aload_n 1, 1) := by decide +kernel
theorem dJ0_init_db425_10 : decode cJ0_init_db425 10 = .ok (.invokevirtual 549, 3) := by decide +kernel
theorem dJ0_init_db425_13 : decode cJ0_init_db425 13 = .ok (.istore 4, 2) := by decide +kernel
theorem dJ0_init_db425_15 : decode cJ0_init_db425 15 = .ok (.aload_n 1, 1) := by decide +kernel
theorem dJ0_init_db425_16 : decode cJ0_init_db425 16 = .ok (.invokevirtual 1047, 3) := by decide +kernel
theorem dJ0_init_db425_19 : decode cJ0_init_db425 19 = .ok (.ifCond .eq 22, 3) := by decide +kernel
theorem dJ0_init_db425_22 : decode cJ0_init_db425 22 = .ok (.aload_n 0, 1) := by decide +kernel
theorem dJ0_init_db425_23 : decode cJ0_init_db425 23 = .ok (.iconst 0, 1) := by decide +kernel
theorem dJ0_init_db425_24 : decode cJ0_init_db425 24 = .ok (.putfield 15, 3) := by decide +kernel
theorem dJ0_init_db425_27 : decode cJ0_init_db425 27 = .ok (.aload_n 0, 1) := by decide +kernel
theorem dJ0_init_db425_28 : decode cJ0_init_db425 28 = .ok (.aload_n 3, 1) := by decide +kernel
theorem dJ0_init_db425_29 : decode cJ0_init_db425 29 = .ok (.iconst 0, 1) := by decide +kernel
theorem dJ0_init_db425_30 : decode cJ0_init_db425 30 = .ok (.iload 4, 2) := by decide +kernel
theorem dJ0_init_db425_32 : decode cJ0_init_db425 32 = .ok (.invokestatic 54, 3) := by decide +kernel
theorem dJ0_init_db425_35 : decode cJ0_init_db425 35 = .ok (.putfield 9, 3) := by decide +kernel
theorem dJ0_init_db425_38 : decode cJ0_init_db425 38 = .ok (.goto 59, 3) := by decide +kernel
theorem dJ0_init_db425_41 : decode cJ0_init_db425 41 = .ok (.getstatic 38, 3) := by decide +kernel
theorem dJ0_init_db425_44 : decode cJ0_init_db425 44 = .ok (.ifCond .eq 35, 3) := by decide +kernel
theorem dJ0_init_db425_47 : decode cJ0_init_db425 47 = .ok (.aload_n 1, 1) := by decide +kernel
theorem dJ0_init_db425_48 : decode cJ0_init_db425 48 = .ok (.getfield 1048, 3) := by decide +kernel
theorem dJ0_init_db425_51 : decode cJ0_init_db425 51 = .ok (.ifCond .eq 28, 3) := by decide +kernel
theorem dJ0_init_db425_54 : decode cJ0_init_db425 54 = .ok (.aload_n 0, 1) := by decide +kernel
theorem dJ0_init_db425_55 : decode cJ0_init_db425 55 = .ok (.aload_n 3, 1) := by decide +kernel
theorem dJ0_init_db425_56 : decode cJ0_init_db425 56 = .ok (.iconst 0, 1) := by decide +kernel
theorem dJ0_init_db425_57 : decode cJ0_init_db425 57 = .ok (.iload 4, 2) := by decide +kernel
theorem dJ0_init_db425_59 : decode cJ0_init_db425 59 = .ok (.invokestatic 1051, 3) := by decide +kernel
theorem dJ0_init_db425_62 : decode cJ0_init_db425 62 = .ok (.putfield 9, 3) := by decide +kernel
theorem dJ0_init_db425_65 : decode cJ0_init_db425 65 = .ok (.aload_n 0, 1) := by decide +kernel
theorem dJ0_init_db425_66 : decode cJ0_init_db425 66 = .ok (.aload_n 0, 1) := by decide +kernel
theorem dJ0_init_db425_67 : decode cJ0_init_db425 67 = .ok (.getfield 9, 3) := by decide +kernel
theorem dJ0_init_db425_70 : decode cJ0_init_db425 70 = .ok (.iload 4, 2) := by decide +kernel
theorem dJ0_init_db425_72 : decode cJ0_init_db425 72 = .ok (.invokestatic 47, 3) := by decide +kernel
theorem dJ0_init_db425_75 : decode cJ0_init_db425 75 = .ok (.putfield 15, 3) := by decide +kernel
theorem dJ0_init_db425_78 : decode cJ0_init_db425 78 = .ok (.return_, 1) := by decide +kernel
theorem dJ0_init_db425_79 : decode cJ0_init_db425 79 = .ok (.aload_n 0, 1) := by decide +kernel
theorem dJ0_init_db425_80 : decode cJ0_init_db425 80 = .ok (.iconst 1, 1) := by decide +kernel
theorem dJ0_init_db425_81 : decode cJ0_init_db425 81 = .ok (.putfield 15, 3) := by decide +kernel
theorem dJ0_init_db425_84 : decode cJ0_init_db425 84 = .ok (.aload_n 0, 1) := by decide +kernel
theorem dJ0_init_db425_85 : decode cJ0_init_db425 85 = .ok (.aload_n 3, 1) := by decide +kernel
theorem dJ0_init_db425_86 : decode cJ0_init_db425 86 = .ok (.iconst 0, 1) := by decide +kernel
theorem dJ0_init_db425_87 : decode cJ0_init_db425 87 = .ok (.iload 4, 2) := by decide +kernel
theorem dJ0_init_db425_89 : decode cJ0_init_db425 89 = .ok (.iconst 1, 1) := by decide +kernel
theorem dJ0_init_db425_90 : decode cJ0_init_db425 90 = .ok (.ishl, 1) := by decide +kernel
theorem dJ0_init_db425_91 : decode cJ0_init_db425 91 = .ok (.invokestatic 54, 3) := by decide +kernel
theorem dJ0_init_db425_94 : decode cJ0_init_db425 94 = .ok (.putfield 9, 3) := by decide +kernel
theorem dJ0_init_db425_97 : decode cJ0_init_db425 97 = .ok (.return_, 1) := by decide +kernel
theorem dJ0_coder_7d493_0 : decode cJ0_coder_7d493 0 = .ok (.getstatic 38, 3) := by decide +kernel
theorem dJ0_coder_7d493_3 : decode cJ0_coder_7d493 3 = .ok (.ifCond .eq 10, 3) := by decide +kernel
theorem dJ0_coder_7d493_6 : decode cJ0_coder_7d493 6 = .ok (.aload_n 0, 1) := by decide +kernel
theorem dJ0_coder_7d493_7 : decode cJ0_coder_7d493 7 = .ok (.getfield 15, 3) := by decide +kernel
theorem dJ0_coder_7d493_10 : decode cJ0_coder_7d493 10 = .ok (.goto 4, 3) := by decide +kernel
theorem dJ0_coder_7d493_13 : decode cJ0_coder_7d493 13 = .ok (.iconst 1, 1) := by decide +kernel
theorem dJ0_coder_7d493_14 : decode cJ0_coder_7d493 14 = .ok (.ireturn, 1) := by decide +kernel
theorem dJ0_isLatin1_aae02_0 : decode cJ0_isLatin1_aae02 0 = .ok (.getstatic 38, 3) := by decide +kernel
theorem dJ0_isLatin1_aae02_3 : decode cJ0_isLatin1_aae02 3 = .ok (.ifCond .eq 14, 3) := by decide +kernel
theorem dJ0_isLatin1_aae02_6 : decode cJ0_isLatin1_aae02 6 = .ok (.aload_n 0, 1) := by decide +kernel
theorem dJ0_isLatin1_aae02_7 : decode cJ0_isLatin1_aae02 7 = .ok (.getfield 15, 3) := by decide +kernel
theorem dJ0_isLatin1_aae02_10 : decode cJ0_isLatin1_aae02 10 = .ok (.ifCond .ne 7, 3) := by decide +kernel
theorem dJ0_isLatin1_aae02_13 : decode cJ0_isLatin1_aae02 13 = .ok (.iconst 1, 1) := by decide +kernel
theorem dJ0_isLatin1_aae02_14 : decode cJ0_isLatin1_aae02 14 = .ok (.goto 4, 3) := by decide +kernel
theorem dJ0_isLatin1_aae02_17 : decode cJ0_isLatin1_aae02 17 = .ok (.iconst 0, 1) := by decide +kernel
theorem dJ0_isLatin1_aae02_18 : decode cJ0_isLatin1_aae02 18 = .ok (.ireturn, 1) := by decide +kernel
theorem dJ0_checkIndex_df160_0 : decode cJ0_checkIndex_df160 0 = .ok (.iload_n 0, 1) := by decide +kernel
theorem dJ0_checkIndex_df160_1 : decode cJ0_checkIndex_df160 1 = .ok (.iload_n 1, 1) := by decide +kernel
theorem dJ0_checkIndex_df160_2 : decode cJ0_checkIndex_df160 2 = .ok (.getstatic 1053, 3) := by decide +kernel
theorem dJ0_checkIndex_df160_5 : decode cJ0_checkIndex_df160 5 = .ok (.invokestatic 1059, 3) := by decide +kernel
theorem dJ0_checkIndex_df160_8 : decode cJ0_checkIndex_df160 8 = .ok (.pop, 1) := by decide +kernel
theorem dJ0_checkIndex_df160_9 : decode cJ0_checkIndex_df160 9 = .ok (.return_, 1) := by decide +kernel
theorem dJ0_checkBoundsOffCount_cabcc_0 : decode cJ0_checkBoundsOffCount_cabcc 0 = .ok (.iload_n 0, 1) := by decide +kernel
theorem dJ0_checkBoundsOffCount_cabcc_1 : decode cJ0_checkBoundsOffCount_cabcc 1 = .ok (.iload_n 1, 1) := by decide +kernel
theorem dJ0_checkBoundsOffCount_cabcc_2 : decode cJ0_checkBoundsOffCount_cabcc 2 = .ok (.iload_n 2, 1) := by decide +kernel
theorem dJ0_checkBoundsOffCount_cabcc_3 : decode cJ0_checkBoundsOffCount_cabcc 3 = .ok (.getstatic 1053, 3) := by decide +kernel
theorem dJ0_checkBoundsOffCount_cabcc_6 : decode cJ0_checkBoundsOffCount_cabcc 6 = .ok (.invokestatic 1065, 3) := by decide +kernel
theorem dJ0_checkBoundsOffCount_cabcc_9 : decode cJ0_checkBoundsOffCount_cabcc 9 = .ok (.ireturn, 1) := by decide +kernel
theorem dJ0_checkBoundsBeginEnd_23922_0 : decode cJ0_checkBoundsBeginEnd_23922 0 = .ok (.iload_n 0, 1) := by decide +kernel
theorem dJ0_checkBoundsBeginEnd_23922_1 : decode cJ0_checkBoundsBeginEnd_23922 1 = .ok (.iload_n 1, 1) := by decide +kernel
theorem dJ0_checkBoundsBeginEnd_23922_2 : decode cJ0_checkBoundsBeginEnd_23922 2 = .ok (.iload_n 2, 1) := by decide +kernel
theorem dJ0_checkBoundsBeginEnd_23922_3 : decode cJ0_checkBoundsBeginEnd_23922 3 = .ok (.getstatic 1053, 3) := by decide +kernel
theorem dJ0_checkBoundsBeginEnd_23922_6 : decode cJ0_checkBoundsBeginEnd_23922 6 = .ok (.invokestatic 1062, 3) := by decide +kernel
theorem dJ0_checkBoundsBeginEnd_23922_9 : decode cJ0_checkBoundsBeginEnd_23922 9 = .ok (.pop, 1) := by decide +kernel
theorem dJ0_checkBoundsBeginEnd_23922_10 : decode cJ0_checkBoundsBeginEnd_23922 10 = .ok (.return_, 1) := by decide +kernel
theorem dJ4_init_da8c8_0 : decode cJ4_init_da8c8 0 = .ok (.aload_n 0, 1) := by decide +kernel
theorem dJ4_init_da8c8_1 : decode cJ4_init_da8c8 1 = .ok (.bipush 16, 2) := by decide +kernel
theorem dJ4_init_da8c8_3 : decode cJ4_init_da8c8 3 = .ok (.invokespecial 1, 3) := by decide +kernel
theorem dJ4_init_da8c8_6 : decode cJ4_init_da8c8 6 = .ok (.return_, 1) := by decide +kernel
theorem dJ4_append_15ec4_0 : decode cJ4_append_15ec4 0 = .ok (.aload_n 0, 1) := by decide +kernel
theorem dJ4_append_15ec4_1 : decode cJ4_append_15ec4 1 = .ok (.aload_n 1, 1) := by decide +kernel
theorem dJ4_append_15ec4_2 : decode cJ4_append_15ec4 2 = .ok (.invokespecial 29, 3) := by decide +kernel
theorem dJ4_append_15ec4_5 : decode cJ4_append_15ec4 5 = .ok (.pop, 1) := by decide +kernel
theorem dJ4_append_15ec4_6 : decode cJ4_append_15ec4 6 = .ok (.aload_n 0, 1) := by decide +kernel
theorem dJ4_append_15ec4_7 : decode cJ4_append_15ec4 7 = .ok (.areturn, 1) := by decide +kernel
theorem dJ4_append_bf812_0 : decode cJ4_append_bf812 0 = .ok (.aload_n 0, 1) := by decide +kernel
theorem dJ4_append_bf812_1 : decode cJ4_append_bf812 1 = .ok (.iload_n 1, 1) := by decide +kernel
theorem dJ4_append_bf812_2 : decode cJ4_append_bf812 2 = .ok (.invokespecial 53, 3) := by decide +kernel
theorem dJ4_append_bf812_5 : decode cJ4_append_bf812 5 = .ok (.pop, 1) := by decide +kernel
theorem dJ4_append_bf812_6 : decode cJ4_append_bf812 6 = .ok (.aload_n 0, 1) := by decide +kernel
theorem dJ4_append_bf812_7 : decode cJ4_append_bf812 7 = .ok (.areturn, 1) := by decide +kernel
theorem dJ4_toString_0e30d_0 : decode cJ4_toString_0e30d 0 = .ok (.new 18, 3) := by decide +kernel
theorem dJ4_toString_0e30d_3 : decode cJ4_toString_0e30d 3 = .ok (.dup, 1) := by decide +kernel
theorem dJ4_toString_0e30d_4 : decode cJ4_toString_0e30d 4 = .ok (.aload_n 0, 1) := by decide +kernel
theorem dJ4_toString_0e30d_5 : decode cJ4_toString_0e30d 5 = .ok (.invokespecial 137, 3) := by decide +kernel
theorem dJ4_toString_0e30d_8 : decode cJ4_toString_0e30d 8 = .ok (.areturn, 1) := by decide +kernel
theorem dJ4_length_8abf5_0 : decode cJ4_length_8abf5 0 = .ok (.aload_n 0, 1) := by decide +kernel
theorem dJ4_length_8abf5_1 : decode cJ4_length_8abf5 1 = .ok (.invokespecial 343, 3) := by decide +kernel
theorem dJ4_length_8abf5_4 : decode cJ4_length_8abf5 4 = .ok (.ireturn, 1) := by decide +kernel
theorem dJ1_charAt_3b067_0 : decode cJ1_charAt_3b067 0 = .ok (.iload_n 1, 1) := by decide +kernel
theorem dJ1_charAt_3b067_1 : decode cJ1_charAt_3b067 1 = .ok (.aload_n 0, 1) := by decide +kernel
theorem dJ1_charAt_3b067_2 : decode cJ1_charAt_3b067 2 = .ok (.arraylength, 1) := by decide +kernel
theorem dJ1_charAt_3b067_3 : decode cJ1_charAt_3b067 3 = .ok (.invokestatic 9, 3) := by decide +kernel
theorem dJ1_charAt_3b067_6 : decode cJ1_charAt_3b067 6 = .ok (.aload_n 0, 1) := by decide +kernel
theorem dJ1_charAt_3b067_7 : decode cJ1_charAt_3b067 7 = .ok (.iload_n 1, 1) := by decide +kernel
theorem dJ1_charAt_3b067_8 : decode cJ1_charAt_3b067 8 = .ok (.baload, 1) := by decide +kernel
theorem dJ1_charAt_3b067_9 : decode cJ1_charAt_3b067 9 = .ok (.sipush 255, 3) := by decide +kernel
theorem dJ1_charAt_3b067_12 : decode cJ1_charAt_3b067 12 = .ok (.iand, 1) := by decide +kernel
theorem dJ1_charAt_3b067_13 : decode cJ1_charAt_3b067 13 = .ok (.i2c, 1) := by decide +kernel
theorem dJ1_charAt_3b067_14 : decode cJ1_charAt_3b067 14 = .ok (.ireturn, 1) := by decide +kernel
theorem dJ7_checkLength_df160_0 : decode cJ7_checkLength_df160 0 = .ok (.iload_n 1, 1) := by decide +kernel
theorem dJ7_checkLength_df160_1 : decode cJ7_checkLength_df160 1 = .ok (.iload_n 0, 1) := by decide +kernel
theorem dJ7_checkLength_df160_2 : decode cJ7_checkLength_df160 2 = .ok (.if_icmp .ge 35, 3) := by decide +kernel
theorem dJ7_checkLength_df160_5 : decode cJ7_checkLength_df160 5 = .ok (.new 43, 3) := by decide +kernel
theorem dJ7_checkLength_df160_8 : decode cJ7_checkLength_df160 8 = .ok (.dup, 1) := by decide +kernel
theorem dJ7_checkLength_df160_9 : decode cJ7_checkLength_df160 9 = .ok (.new 45, 3) := by decide +kernel
theorem dJ7_checkLength_df160_12 : decode cJ7_checkLength_df160 12 = .ok (.dup, 1) := by decide +kernel
theorem dJ7_checkLength_df160_13 : decode cJ7_checkLength_df160 13 = .ok (.invokespecial 47, 3) := by decide +kernel
theorem dJ7_checkLength_df160_16 : decode cJ7_checkLength_df160 16 = .ok (.iload_n 0, 1) := by decide +kernel
theorem dJ7_checkLength_df160_17 : decode cJ7_checkLength_df160 17 = .ok (.invokevirtual 54, 3) := by decide +kernel
theorem dJ7_checkLength_df160_20 : decode cJ7_checkLength_df160 20 = .ok (.ldc_w 337, 3) := by decide +kernel
theorem dJ7_checkLength_df160_23 : decode cJ7_checkLength_df160 23 = .ok (.invokevirtual 50, 3) := by decide +kernel
theorem dJ7_checkLength_df160_26 : decode cJ7_checkLength_df160 26 = .ok (.iload_n 1, 1) := by decide +kernel
theorem dJ7_checkLength_df160_27 : decode cJ7_checkLength_df160 27 = .ok (.invokevirtual 54, 3) := by decide +kernel
theorem dJ7_checkLength_df160_30 : decode cJ7_checkLength_df160 30 = .ok (.invokevirtual 61, 3) := by decide +kernel
theorem dJ7_checkLength_df160_33 : decode cJ7_checkLength_df160 33 = .ok (.invokespecial 65, 3) := by decide +kernel
theorem dJ7_checkLength_df160_36 : decode cJ7_checkLength_df160 36 = .ok (.athrow, 1) := by decide +kernel
theorem dJ7_checkLength_df160_37 : decode cJ7_checkLength_df160 37 = .ok (.return_, 1) := by decide +kernel
theorem dJ7_copyOfRange_39247_0 : decode cJ7_copyOfRange_39247 0 = .ok (.iload_n 1, 1) := by decide +kernel
theorem dJ7_copyOfRange_39247_1 : decode cJ7_copyOfRange_39247 1 = .ok (.ifCond .ne 9, 3) := by decide +kernel
theorem dJ7_copyOfRange_39247_4 : decode cJ7_copyOfRange_39247 4 = .ok (.iload_n 2, 1) := by decide +kernel
theorem dJ7_copyOfRange_39247_5 : decode cJ7_copyOfRange_39247 5 = .ok (.aload_n 0, 1) := by decide +kernel
theorem dJ7_copyOfRange_39247_6 : decode cJ7_copyOfRange_39247 6 = .ok (.arraylength, 1) := by decide +kernel
theorem dJ7_copyOfRange_39247_7 : decode cJ7_copyOfRange_39247 7 = .ok (.if_icmp .eq 10, 3) := by decide +kernel
theorem dJ7_copyOfRange_39247_10 : decode cJ7_copyOfRange_39247 10 = .ok (.aload_n 0, 1) := by decide +kernel
theorem dJ7_copyOfRange_39247_11 : decode cJ7_copyOfRange_39247 11 = .ok (.iload_n 1, 1) := by decide +kernel
theorem dJ7_copyOfRange_39247_12 : decode cJ7_copyOfRange_39247 12 = .ok (.iload_n 2, 1) := by decide +kernel
theorem dJ7_copyOfRange_39247_13 : decode cJ7_copyOfRange_39247 13 = .ok (.invokestatic 339, 3) := by decide +kernel
theorem dJ7_copyOfRange_39247_16 : decode cJ7_copyOfRange_39247 16 = .ok (.areturn, 1) := by decide +kernel
theorem dJ7_copyOfRange_39247_17 : decode cJ7_copyOfRange_39247 17 = .ok (.aload_n 0, 1) := by decide +kernel
theorem dJ7_copyOfRange_39247_18 : decode cJ7_copyOfRange_39247 18 = .ok (.invokevirtual 310, 3) := by decide +kernel
theorem dJ7_copyOfRange_39247_21 : decode cJ7_copyOfRange_39247 21 = .ok (.checkcast 311, 3) := by decide +kernel
theorem dJ7_copyOfRange_39247_24 : decode cJ7_copyOfRange_39247 24 = .ok (.areturn, 1) := by decide +kernel
theorem dJ7_copyOfRangeByte_39247_0 : decode cJ7_copyOfRangeByte_39247 0 = .ok (.iload_n 1, 1) := by decide +kernel
theorem dJ7_copyOfRangeByte_39247_1 : decode cJ7_copyOfRangeByte_39247 1 = .ok (.iload_n 2, 1) := by decide +kernel
theorem dJ7_copyOfRangeByte_39247_2 : decode cJ7_copyOfRangeByte_39247 2 = .ok (.invokestatic 343, 3) := by decide +kernel
theorem dJ7_copyOfRangeByte_39247_5 : decode cJ7_copyOfRangeByte_39247 5 = .ok (.iload_n 2, 1) := by decide +kernel
theorem dJ7_copyOfRangeByte_39247_6 : decode cJ7_copyOfRangeByte_39247 6 = .ok (.iload_n 1, 1) := by decide +kernel
theorem dJ7_copyOfRangeByte_39247_7 : decode cJ7_copyOfRangeByte_39247 7 = .ok (.isub, 1) := by decide +kernel
theorem dJ7_copyOfRangeByte_39247_8 : decode cJ7_copyOfRangeByte_39247 8 = .ok (.istore_n 3, 1) := by decide +kernel
theorem dJ7_copyOfRangeByte_39247_9 : decode cJ7_copyOfRangeByte_39247 9 = .ok (.iload_n 3, 1) := by decide +kernel
theorem dJ7_copyOfRangeByte_39247_10 : decode cJ7_copyOfRangeByte_39247 10 = .ok (.newarray .byte, 2) := by decide +kernel
theorem dJ7_copyOfRangeByte_39247_12 : decode cJ7_copyOfRangeByte_39247 12 = .ok (.astore 4, 2) := by decide +kernel
theorem dJ7_copyOfRangeByte_39247_14 : decode cJ7_copyOfRangeByte_39247 14 = .ok (.aload_n 0, 1) := by decide +kernel
theorem dJ7_copyOfRangeByte_39247_15 : decode cJ7_copyOfRangeByte_39247 15 = .ok (.iload_n 1, 1) := by decide +kernel
theorem dJ7_copyOfRangeByte_39247_16 : decode cJ7_copyOfRangeByte_39247 16 = .ok (.aload 4, 2) := by decide +kernel
theorem dJ7_copyOfRangeByte_39247_18 : decode cJ7_copyOfRangeByte_39247 18 = .ok (.iconst 0, 1) := by decide +kernel
theorem dJ7_copyOfRangeByte_39247_19 : decode cJ7_copyOfRangeByte_39247 19 = .ok (.aload_n 0, 1) := by decide +kernel
theorem dJ7_copyOfRangeByte_39247_20 : decode cJ7_copyOfRangeByte_39247 20 = .ok (.arraylength, 1) := by decide +kernel
theorem dJ7_copyOfRangeByte_39247_21 : decode cJ7_copyOfRangeByte_39247 21 = .ok (.iload_n 1, 1) := by decide +kernel
theorem dJ7_copyOfRangeByte_39247_22 : decode cJ7_copyOfRangeByte_39247 22 = .ok (.isub, 1) := by decide +kernel
theorem dJ7_copyOfRangeByte_39247_23 : decode cJ7_copyOfRangeByte_39247 23 = .ok (.iload_n 3, 1) := by decide +kernel
theorem dJ7_copyOfRangeByte_39247_24 : decode cJ7_copyOfRangeByte_39247 24 = .ok (.invokestatic 304, 3) := by decide +kernel
theorem dJ7_copyOfRangeByte_39247_27 : decode cJ7_copyOfRangeByte_39247 27 = .ok (.invokestatic 150, 3) := by decide +kernel
theorem dJ7_copyOfRangeByte_39247_30 : decode cJ7_copyOfRangeByte_39247 30 = .ok (.aload 4, 2) := by decide +kernel
theorem dJ7_copyOfRangeByte_39247_32 : decode cJ7_copyOfRangeByte_39247 32 = .ok (.areturn, 1) := by decide +kernel
theorem dJ3_checkIndex_8e157_0 : decode cJ3_checkIndex_8e157 0 = .ok (.iload_n 0, 1) := by decide +kernel
theorem dJ3_checkIndex_8e157_1 : decode cJ3_checkIndex_8e157 1 = .ok (.ifCond .lt 8, 3) := by decide +kernel
theorem dJ3_checkIndex_8e157_4 : decode cJ3_checkIndex_8e157 4 = .ok (.iload_n 0, 1) := by decide +kernel
theorem dJ3_checkIndex_8e157_5 : decode cJ3_checkIndex_8e157 5 = .ok (.iload_n 1, 1) := by decide +kernel
theorem dJ3_checkIndex_8e157_6 : decode cJ3_checkIndex_8e157 6 = .ok (.if_icmp .lt 10, 3) := by decide +kernel
theorem dJ3_checkIndex_8e157_9 : decode cJ3_checkIndex_8e157 9 = .ok (.aload_n 2, 1) := by decide +kernel
theorem dJ3_checkIndex_8e157_10 : decode cJ3_checkIndex_8e157 10 = .ok (.iload_n 0, 1) := by decide +kernel
theorem dJ3_checkIndex_8e157_11 : decode cJ3_checkIndex_8e157 11 = .ok (.iload_n 1, 1) := by decide +kernel
theorem dJ3_checkIndex_8e157_12 : decode cJ3_checkIndex_8e157 12 = .ok (.invokestatic 95, 3) := by decide +kernel
theorem dJ3_checkIndex_8e157_15 : decode cJ3_checkIndex_8e157 15 = .ok (.athrow, 1) := by decide +kernel
theorem dJ3_checkIndex_8e157_16 : decode cJ3_checkIndex_8e157 16 = .ok (.iload_n 0, 1) := by decide +kernel
theorem dJ3_checkIndex_8e157_17 : decode cJ3_checkIndex_8e157 17 = .ok (.ireturn, 1) := by decide +kernel
