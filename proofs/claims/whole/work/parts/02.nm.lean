/-! ===== BEGIN printed: names, fields, word lists, decode rows ===== -/
def RX0 : String := "FeederProtection$EventLog"
def TX0 : u_T := fun k => match k with
  | 0 => ("FeederProtection$EventLog", "count", "I", false)
  | 1 => ("FeederProtection$EventLog", "codes", "[I", true)
  | 2 => ("FeederProtection$EventLog", "times", "[D", true)
  | _ => ("FeederProtection$EventLog", "cleared", "D", false)
def tyX0 : Nat → FieldType := fun k => match k with
  | 0 => .int
  | 1 => .array .int
  | 2 => .array .double
  | _ => .double
abbrev wsX00 : List Cond := u_ws RX0 TX0 4
theorem nmX0 : ∀ a, a < 4 → ∀ b, b < 4 → a ≠ b → (TX0 a).2.1 ≠ (TX0 b).2.1 := by decide +kernel
theorem tyX0_ok : ∀ k, k < 4 → parseFieldDescriptor (TX0 k).2.2.1 = some (tyX0 k) := by decide +kernel
abbrev cX0_init : ByteArray := prog_2_method_1_code
def yX0_init : MethodName := ⟨RX0, "<init>", "()V"⟩
abbrev cX0_copyFrom : ByteArray := prog_2_method_2_code
def yX0_copyFrom : MethodName := ⟨RX0, "copyFrom", "(LFeederProtection$EventLog;)V"⟩
abbrev cX0_reset : ByteArray := prog_2_method_3_code
def yX0_reset : MethodName := ⟨RX0, "reset", "()V"⟩
abbrev cX0_put : ByteArray := prog_2_method_4_code
def yX0_put : MethodName := ⟨RX0, "put", "(IID)V"⟩
def RX1 : String := "FeederProtection$Network"
def TX1 : u_T := fun k => match k with
  | 0 => ("FeederProtection$Network", "voltage", "D", false)
  | 1 => ("FeederProtection$Network", "sourceImpedance", "D", false)
  | 2 => ("FeederProtection$Network", "lineCount", "I", false)
  | 3 => ("FeederProtection$Network", "fromBus", "[I", true)
  | 4 => ("FeederProtection$Network", "path", "[I", true)
  | 5 => ("FeederProtection$Network", "impedance", "[D", true)
  | _ => ("FeederProtection$Network", "load", "[I", true)
def tyX1 : Nat → FieldType := fun k => match k with
  | 0 => .double
  | 1 => .double
  | 2 => .int
  | 3 => .array .int
  | 4 => .array .int
  | 5 => .array .double
  | _ => .array .int
abbrev wsX10 : List Cond := u_ws RX1 TX1 7
theorem nmX1 : ∀ a, a < 7 → ∀ b, b < 7 → a ≠ b → (TX1 a).2.1 ≠ (TX1 b).2.1 := by decide +kernel
theorem tyX1_ok : ∀ k, k < 7 → parseFieldDescriptor (TX1 k).2.2.1 = some (tyX1 k) := by decide +kernel
abbrev cX1_init : ByteArray := prog_3_method_1_code
def yX1_init : MethodName := ⟨RX1, "<init>", "()V"⟩
abbrev cX1_copyFrom : ByteArray := prog_3_method_2_code
def yX1_copyFrom : MethodName := ⟨RX1, "copyFrom", "(LFeederProtection$Network;)V"⟩
abbrev cX1_append : ByteArray := prog_3_method_3_code
def yX1_append : MethodName := ⟨RX1, "append", "(ID)I"⟩
abbrev cX1_lineBefore : ByteArray := prog_3_method_4_code
def yX1_lineBefore : MethodName := ⟨RX1, "lineBefore", "(I)I"⟩
abbrev cX1_loadOver : ByteArray := prog_3_method_5_code
def yX1_loadOver : MethodName := ⟨RX1, "loadOver", "(I)I"⟩
abbrev cX1_currentAt : ByteArray := prog_3_method_6_code
def yX1_currentAt : MethodName := ⟨RX1, "currentAt", "(II)D"⟩
def RX2 : String := "FeederProtection$Relays"
def TX2 : u_T := fun k => match k with
  | 0 => ("FeederProtection$Relays", "pickup", "[I", true)
  | 1 => ("FeederProtection$Relays", "curve", "[I", true)
  | 2 => ("FeederProtection$Relays", "steps", "[I", true)
  | 3 => ("FeederProtection$Relays", "instantaneous", "[I", true)
  | 4 => ("FeederProtection$Relays", "shots", "[I", true)
  | 5 => ("FeederProtection$Relays", "stuckMask", "I", false)
  | _ => ("FeederProtection$Relays", "openMask", "I", false)
def tyX2 : Nat → FieldType := fun k => match k with
  | 0 => .array .int
  | 1 => .array .int
  | 2 => .array .int
  | 3 => .array .int
  | 4 => .array .int
  | 5 => .int
  | _ => .int
abbrev wsX20 : List Cond := u_ws RX2 TX2 7
theorem nmX2 : ∀ a, a < 7 → ∀ b, b < 7 → a ≠ b → (TX2 a).2.1 ≠ (TX2 b).2.1 := by decide +kernel
theorem tyX2_ok : ∀ k, k < 7 → parseFieldDescriptor (TX2 k).2.2.1 = some (tyX2 k) := by decide +kernel
abbrev cX2_init : ByteArray := prog_4_method_1_code
def yX2_init : MethodName := ⟨RX2, "<init>", "()V"⟩
abbrev cX2_copyFrom : ByteArray := prog_4_method_2_code
def yX2_copyFrom : MethodName := ⟨RX2, "copyFrom", "(LFeederProtection$Relays;)V"⟩
abbrev cX2_isStuck : ByteArray := prog_4_method_3_code
def yX2_isStuck : MethodName := ⟨RX2, "isStuck", "(I)Z"⟩
abbrev cX2_makeStuck : ByteArray := prog_4_method_4_code
def yX2_makeStuck : MethodName := ⟨RX2, "makeStuck", "(IZ)V"⟩
abbrev cX2_timeFor : ByteArray := prog_4_method_5_code
def yX2_timeFor : MethodName := ⟨RX2, "timeFor", "(ID)D"⟩
abbrev cX2_delayedTime : ByteArray := prog_4_method_6_code
def yX2_delayedTime : MethodName := ⟨RX2, "delayedTime", "(IDD)D"⟩
def RX3 : String := "FeederProtection$Simulation"
def TX3 : u_T := fun k => match k with
  | 0 => ("FeederProtection$Simulation", "tripping", "[I", true)
  | 1 => ("FeederProtection$Simulation", "trippingCount", "I", false)
  | 2 => ("FeederProtection$Simulation", "tripTime", "[D", true)
  | 3 => ("FeederProtection$Simulation", "opening", "[I", true)
  | 4 => ("FeederProtection$Simulation", "openingCount", "I", false)
  | _ => ("FeederProtection$Simulation", "timesOpened", "[I", true)
def tyX3 : Nat → FieldType := fun k => match k with
  | 0 => .array .int
  | 1 => .int
  | 2 => .array .double
  | 3 => .array .int
  | 4 => .int
  | _ => .array .int
abbrev wsX30 : List Cond := u_ws RX3 TX3 6
theorem nmX3 : ∀ a, a < 6 → ∀ b, b < 6 → a ≠ b → (TX3 a).2.1 ≠ (TX3 b).2.1 := by decide +kernel
theorem tyX3_ok : ∀ k, k < 6 → parseFieldDescriptor (TX3 k).2.2.1 = some (tyX3 k) := by decide +kernel
abbrev cX3_init : ByteArray := prog_5_method_1_code
def yX3_init : MethodName := ⟨RX3, "<init>", "()V"⟩
abbrev cX3_run : ByteArray := prog_5_method_2_code
def yX3_run : MethodName := ⟨RX3, "run", "(LFeederProtection$State;IID)V"⟩
abbrev cX3_playRound : ByteArray := prog_5_method_3_code
def yX3_playRound : MethodName := ⟨RX3, "playRound", "(LFeederProtection$State;IDD)D"⟩
abbrev cX3_lineUpTrips : ByteArray := prog_5_method_4_code
def yX3_lineUpTrips : MethodName := ⟨RX3, "lineUpTrips", "(LFeederProtection$Relays;IDD)V"⟩
abbrev cX3_lineUp : ByteArray := prog_5_method_5_code
def yX3_lineUp : MethodName := ⟨RX3, "lineUp", "(I)V"⟩
abbrev cX3_takeTrips : ByteArray := prog_5_method_6_code
def yX3_takeTrips : MethodName := ⟨RX3, "takeTrips", "(LFeederProtection$Relays;LFeederProtection$EventLog;)V"⟩
abbrev cX3_openingTime : ByteArray := prog_5_method_7_code
def yX3_openingTime : MethodName := ⟨RX3, "openingTime", "(I)D"⟩
abbrev cX3_openThem : ByteArray := prog_5_method_8_code
def yX3_openThem : MethodName := ⟨RX3, "openThem", "(LFeederProtection$Relays;LFeederProtection$EventLog;)V"⟩
abbrev cX3_reclose : ByteArray := prog_5_method_9_code
def yX3_reclose : MethodName := ⟨RX3, "reclose", "(LFeederProtection$Relays;LFeederProtection$EventLog;)D"⟩
def RX4 : String := "FeederProtection$State"
def TX4 : u_T := fun k => match k with
  | 0 => ("FeederProtection$State", "network", "LFeederProtection$Network;", true)
  | 1 => ("FeederProtection$State", "relays", "LFeederProtection$Relays;", true)
  | 2 => ("FeederProtection$State", "events", "LFeederProtection$EventLog;", true)
  | _ => ("FeederProtection$State", "requiredMargin", "D", false)
def tyX4 : Nat → FieldType := fun k => match k with
  | 0 => .object "FeederProtection$Network"
  | 1 => .object "FeederProtection$Relays"
  | 2 => .object "FeederProtection$EventLog"
  | _ => .double
abbrev wsX40 : List Cond := u_ws RX4 TX4 4
theorem nmX4 : ∀ a, a < 4 → ∀ b, b < 4 → a ≠ b → (TX4 a).2.1 ≠ (TX4 b).2.1 := by decide +kernel
theorem tyX4_ok : ∀ k, k < 4 → parseFieldDescriptor (TX4 k).2.2.1 = some (tyX4 k) := by decide +kernel
abbrev cX4_init : ByteArray := prog_6_method_1_code
def yX4_init : MethodName := ⟨RX4, "<init>", "()V"⟩
abbrev cX4_copyFrom : ByteArray := prog_6_method_2_code
def yX4_copyFrom : MethodName := ⟨RX4, "copyFrom", "(LFeederProtection$State;)V"⟩
abbrev cX4_marginAt : ByteArray := prog_6_method_3_code
def yX4_marginAt : MethodName := ⟨RX4, "marginAt", "(II)D"⟩
abbrev cX4_worstMargin : ByteArray := prog_6_method_4_code
def yX4_worstMargin : MethodName := ⟨RX4, "worstMargin", "(I)D"⟩
abbrev cX4_countViolations : ByteArray := prog_6_method_5_code
def yX4_countViolations : MethodName := ⟨RX4, "countViolations", "()I"⟩
abbrev cX4_violationOfRank : ByteArray := prog_6_method_6_code
def yX4_violationOfRank : MethodName := ⟨RX4, "violationOfRank", "(I)I"⟩
abbrev cX4_relaysWorseThan : ByteArray := prog_6_method_7_code
def yX4_relaysWorseThan : MethodName := ⟨RX4, "relaysWorseThan", "(I)I"⟩
abbrev cX4_gradeSteps : ByteArray := prog_6_method_8_code
def yX4_gradeSteps : MethodName := ⟨RX4, "gradeSteps", "(I)Z"⟩
abbrev cX4_keepsMargins : ByteArray := prog_6_method_9_code
def yX4_keepsMargins : MethodName := ⟨RX4, "keepsMargins", "(I)Z"⟩
def RX5 : String := "FeederProtection$UndoStack"
def TX5 : u_T := fun k => match k with
  | 0 => ("FeederProtection$UndoStack", "count", "I", false)
  | 1 => ("FeederProtection$UndoStack", "next", "I", false)
  | _ => ("FeederProtection$UndoStack", "saved", "[LFeederProtection$State;", true)
def tyX5 : Nat → FieldType := fun k => match k with
  | 0 => .int
  | 1 => .int
  | _ => .array (.object "FeederProtection$State")
abbrev wsX50 : List Cond := u_ws RX5 TX5 3
theorem nmX5 : ∀ a, a < 3 → ∀ b, b < 3 → a ≠ b → (TX5 a).2.1 ≠ (TX5 b).2.1 := by decide +kernel
theorem tyX5_ok : ∀ k, k < 3 → parseFieldDescriptor (TX5 k).2.2.1 = some (tyX5 k) := by decide +kernel
abbrev cX5_init : ByteArray := prog_7_method_1_code
def yX5_init : MethodName := ⟨RX5, "<init>", "()V"⟩
abbrev cX5_push : ByteArray := prog_7_method_2_code
def yX5_push : MethodName := ⟨RX5, "push", "(LFeederProtection$State;)V"⟩
abbrev cX5_popInto : ByteArray := prog_7_method_3_code
def yX5_popInto : MethodName := ⟨RX5, "popInto", "(LFeederProtection$State;)V"⟩
def RX6 : String := "FeederProtection"
def TX6 : u_T := fun k => match k with
  | 0 => ("FeederProtection", "state", "LFeederProtection$State;", true)
  | 1 => ("FeederProtection", "undoStack", "LFeederProtection$UndoStack;", true)
  | _ => ("FeederProtection", "simulation", "LFeederProtection$Simulation;", true)
def tyX6 : Nat → FieldType := fun k => match k with
  | 0 => .object "FeederProtection$State"
  | 1 => .object "FeederProtection$UndoStack"
  | _ => .object "FeederProtection$Simulation"
abbrev wsX60 : List Cond := u_ws RX6 TX6 3
theorem nmX6 : ∀ a, a < 3 → ∀ b, b < 3 → a ≠ b → (TX6 a).2.1 ≠ (TX6 b).2.1 := by decide +kernel
theorem tyX6_ok : ∀ k, k < 3 → parseFieldDescriptor (TX6 k).2.2.1 = some (tyX6 k) := by decide +kernel
abbrev cX6_init : ByteArray := prog_1_method_1_code
def yX6_init : MethodName := ⟨RX6, "<init>", "()V"⟩
abbrev cX6_setSource : ByteArray := prog_1_method_2_code
def yX6_setSource : MethodName := ⟨RX6, "setSource", "(DD)D"⟩
abbrev cX6_addLine : ByteArray := prog_1_method_3_code
def yX6_addLine : MethodName := ⟨RX6, "addLine", "(ID)I"⟩
abbrev cX6_setLoad : ByteArray := prog_1_method_4_code
def yX6_setLoad : MethodName := ⟨RX6, "setLoad", "(II)I"⟩
abbrev cX6_loadCurrent : ByteArray := prog_1_method_5_code
def yX6_loadCurrent : MethodName := ⟨RX6, "loadCurrent", "(I)I"⟩
abbrev cX6_faultCurrent : ByteArray := prog_1_method_6_code
def yX6_faultCurrent : MethodName := ⟨RX6, "faultCurrent", "(II)D"⟩
abbrev cX6_setRelay : ByteArray := prog_1_method_7_code
def yX6_setRelay : MethodName := ⟨RX6, "setRelay", "(IIII)I"⟩
abbrev cX6_setInstantaneous : ByteArray := prog_1_method_8_code
def yX6_setInstantaneous : MethodName := ⟨RX6, "setInstantaneous", "(II)I"⟩
abbrev cX6_setShots : ByteArray := prog_1_method_9_code
def yX6_setShots : MethodName := ⟨RX6, "setShots", "(II)I"⟩
abbrev cX6_setStuck : ByteArray := prog_1_method_10_code
def yX6_setStuck : MethodName := ⟨RX6, "setStuck", "(IZ)Z"⟩
abbrev cX6_pickup : ByteArray := prog_1_method_11_code
def yX6_pickup : MethodName := ⟨RX6, "pickup", "(I)I"⟩
abbrev cX6_steps : ByteArray := prog_1_method_12_code
def yX6_steps : MethodName := ⟨RX6, "steps", "(I)I"⟩
abbrev cX6_upstream : ByteArray := prog_1_method_13_code
def yX6_upstream : MethodName := ⟨RX6, "upstream", "(I)I"⟩
abbrev cX6_operatingTime : ByteArray := prog_1_method_14_code
def yX6_operatingTime : MethodName := ⟨RX6, "operatingTime", "(ID)D"⟩
abbrev cX6_sensitivity : ByteArray := prog_1_method_15_code
def yX6_sensitivity : MethodName := ⟨RX6, "sensitivity", "(I)D"⟩
abbrev cX6_setMargin : ByteArray := prog_1_method_16_code
def yX6_setMargin : MethodName := ⟨RX6, "setMargin", "(D)D"⟩
abbrev cX6_margin : ByteArray := prog_1_method_17_code
def yX6_margin : MethodName := ⟨RX6, "margin", "(II)D"⟩
abbrev cX6_violationCount : ByteArray := prog_1_method_18_code
def yX6_violationCount : MethodName := ⟨RX6, "violationCount", "()I"⟩
abbrev cX6_violation : ByteArray := prog_1_method_19_code
def yX6_violation : MethodName := ⟨RX6, "violation", "(I)I"⟩
abbrev cX6_autoPickup : ByteArray := prog_1_method_20_code
def yX6_autoPickup : MethodName := ⟨RX6, "autoPickup", "(I)I"⟩
abbrev cX6_autoGrade : ByteArray := prog_1_method_21_code
def yX6_autoGrade : MethodName := ⟨RX6, "autoGrade", "()I"⟩
abbrev cX6_simulate : ByteArray := prog_1_method_22_code
def yX6_simulate : MethodName := ⟨RX6, "simulate", "(IID)I"⟩
abbrev cX6_eventCount : ByteArray := prog_1_method_23_code
def yX6_eventCount : MethodName := ⟨RX6, "eventCount", "()I"⟩
abbrev cX6_event : ByteArray := prog_1_method_24_code
def yX6_event : MethodName := ⟨RX6, "event", "(I)I"⟩
abbrev cX6_eventTime : ByteArray := prog_1_method_25_code
def yX6_eventTime : MethodName := ⟨RX6, "eventTime", "(I)D"⟩
abbrev cX6_clearedTime : ByteArray := prog_1_method_26_code
def yX6_clearedTime : MethodName := ⟨RX6, "clearedTime", "()D"⟩
abbrev cX6_openBreakers : ByteArray := prog_1_method_27_code
def yX6_openBreakers : MethodName := ⟨RX6, "openBreakers", "()I"⟩
abbrev cX6_lostLoad : ByteArray := prog_1_method_28_code
def yX6_lostLoad : MethodName := ⟨RX6, "lostLoad", "()I"⟩
abbrev cX6_closeAll : ByteArray := prog_1_method_29_code
def yX6_closeAll : MethodName := ⟨RX6, "closeAll", "()I"⟩
abbrev cX6_undo : ByteArray := prog_1_method_30_code
def yX6_undo : MethodName := ⟨RX6, "undo", "()I"⟩
abbrev cX6_digest : ByteArray := prog_1_method_31_code
def yX6_digest : MethodName := ⟨RX6, "digest", "()J"⟩
abbrev cX6_mixedLine : ByteArray := prog_1_method_32_code
def yX6_mixedLine : MethodName := ⟨RX6, "mixedLine", "(JI)J"⟩
abbrev cX6_mixedEvents : ByteArray := prog_1_method_33_code
def yX6_mixedEvents : MethodName := ⟨RX6, "mixedEvents", "(J)J"⟩
abbrev cX6_mixed : ByteArray := prog_1_method_34_code
def yX6_mixed : MethodName := ⟨RX6, "mixed", "(JJ)J"⟩
abbrev cX6_bitsOf : ByteArray := prog_1_method_35_code
def yX6_bitsOf : MethodName := ⟨RX6, "bitsOf", "(D)J"⟩
abbrev cX6_infinity : ByteArray := prog_1_method_36_code
def yX6_infinity : MethodName := ⟨RX6, "infinity", "()D"⟩
abbrev cX6_pickupForLoad : ByteArray := prog_1_method_37_code
def yX6_pickupForLoad : MethodName := ⟨RX6, "pickupForLoad", "(II)I"⟩
abbrev cX6_within : ByteArray := prog_1_method_38_code
def yX6_within : MethodName := ⟨RX6, "within", "(III)Z"⟩
abbrev cX6_within_ : ByteArray := prog_1_method_39_code
def yX6_within_ : MethodName := ⟨RX6, "within", "(DDD)Z"⟩
abbrev cX6_requireImpedance : ByteArray := prog_1_method_40_code
def yX6_requireImpedance : MethodName := ⟨RX6, "requireImpedance", "(D)V"⟩
abbrev cX6_requirePlace : ByteArray := prog_1_method_41_code
def yX6_requirePlace : MethodName := ⟨RX6, "requirePlace", "(I)V"⟩
abbrev cX6_requireLine : ByteArray := prog_1_method_42_code
def yX6_requireLine : MethodName := ⟨RX6, "requireLine", "(I)V"⟩
abbrev cX6_requireEvent : ByteArray := prog_1_method_43_code
def yX6_requireEvent : MethodName := ⟨RX6, "requireEvent", "(I)V"⟩
def RX7 : String := "FeederProtectionModel"
def TX7 : u_T := fun k => match k with
  | 0 => ("FeederProtectionModel", "thrown", "I", false)
  | 1 => ("FeederProtectionModel", "w", "[I", true)
  | 2 => ("FeederProtectionModel", "x", "[D", true)
  | 3 => ("FeederProtectionModel", "savedWhole", "[I", true)
  | 4 => ("FeederProtectionModel", "savedReal", "[D", true)
  | 5 => ("FeederProtectionModel", "saved", "I", false)
  | 6 => ("FeederProtectionModel", "path", "[I", true)
  | 7 => ("FeederProtectionModel", "pathLength", "I", false)
  | 8 => ("FeederProtectionModel", "order", "[I", true)
  | 9 => ("FeederProtectionModel", "trips", "[D", true)
  | 10 => ("FeederProtectionModel", "trippers", "I", false)
  | 11 => ("FeederProtectionModel", "opening", "[I", true)
  | 12 => ("FeederProtectionModel", "openingTime", "[D", true)
  | 13 => ("FeederProtectionModel", "openings", "I", false)
  | _ => ("FeederProtectionModel", "openCounts", "[I", true)
def tyX7 : Nat → FieldType := fun k => match k with
  | 0 => .int
  | 1 => .array .int
  | 2 => .array .double
  | 3 => .array .int
  | 4 => .array .double
  | 5 => .int
  | 6 => .array .int
  | 7 => .int
  | 8 => .array .int
  | 9 => .array .double
  | 10 => .int
  | 11 => .array .int
  | 12 => .array .double
  | 13 => .int
  | _ => .array .int
abbrev wsX70 : List Cond := u_ws RX7 TX7 15
theorem nmX7 : ∀ a, a < 15 → ∀ b, b < 15 → a ≠ b → (TX7 a).2.1 ≠ (TX7 b).2.1 := by decide +kernel
theorem tyX7_ok : ∀ k, k < 15 → parseFieldDescriptor (TX7 k).2.2.1 = some (tyX7 k) := by decide +kernel
abbrev cX7_init : ByteArray := prog_9_method_1_code
def yX7_init : MethodName := ⟨RX7, "<init>", "()V"⟩
abbrev cX7_thrown : ByteArray := prog_9_method_2_code
def yX7_thrown : MethodName := ⟨RX7, "thrown", "()I"⟩
abbrev cX7_in : ByteArray := prog_9_method_3_code
def yX7_in : MethodName := ⟨RX7, "in", "(III)Z"⟩
abbrev cX7_inReal : ByteArray := prog_9_method_4_code
def yX7_inReal : MethodName := ⟨RX7, "inReal", "(DDD)Z"⟩
abbrev cX7_isLine : ByteArray := prog_9_method_5_code
def yX7_isLine : MethodName := ⟨RX7, "isLine", "(I)Z"⟩
abbrev cX7_at : ByteArray := prog_9_method_6_code
def yX7_at : MethodName := ⟨RX7, "at", "(II)I"⟩
abbrev cX7_save : ByteArray := prog_9_method_7_code
def yX7_save : MethodName := ⟨RX7, "save", "()V"⟩
abbrev cX7_change : ByteArray := prog_9_method_8_code
def yX7_change : MethodName := ⟨RX7, "change", "(II)I"⟩
abbrev cX7_setSource : ByteArray := prog_9_method_9_code
def yX7_setSource : MethodName := ⟨RX7, "setSource", "(DD)D"⟩
abbrev cX7_addLine : ByteArray := prog_9_method_10_code
def yX7_addLine : MethodName := ⟨RX7, "addLine", "(ID)I"⟩
abbrev cX7_setLoad : ByteArray := prog_9_method_11_code
def yX7_setLoad : MethodName := ⟨RX7, "setLoad", "(II)I"⟩
abbrev cX7_above : ByteArray := prog_9_method_12_code
def yX7_above : MethodName := ⟨RX7, "above", "(I)I"⟩
abbrev cX7_isOver : ByteArray := prog_9_method_13_code
def yX7_isOver : MethodName := ⟨RX7, "isOver", "(II)Z"⟩
abbrev cX7_loadOver : ByteArray := prog_9_method_14_code
def yX7_loadOver : MethodName := ⟨RX7, "loadOver", "(I)I"⟩
abbrev cX7_loadCurrent : ByteArray := prog_9_method_15_code
def yX7_loadCurrent : MethodName := ⟨RX7, "loadCurrent", "(I)I"⟩
abbrev cX7_findPath : ByteArray := prog_9_method_16_code
def yX7_findPath : MethodName := ⟨RX7, "findPath", "(I)V"⟩
abbrev cX7_currentAt : ByteArray := prog_9_method_17_code
def yX7_currentAt : MethodName := ⟨RX7, "currentAt", "(II)D"⟩
abbrev cX7_isLocation : ByteArray := prog_9_method_18_code
def yX7_isLocation : MethodName := ⟨RX7, "isLocation", "(II)Z"⟩
abbrev cX7_faultCurrent : ByteArray := prog_9_method_19_code
def yX7_faultCurrent : MethodName := ⟨RX7, "faultCurrent", "(II)D"⟩
abbrev cX7_setRelay : ByteArray := prog_9_method_20_code
def yX7_setRelay : MethodName := ⟨RX7, "setRelay", "(IIII)I"⟩
abbrev cX7_setInstantaneous : ByteArray := prog_9_method_21_code
def yX7_setInstantaneous : MethodName := ⟨RX7, "setInstantaneous", "(II)I"⟩
abbrev cX7_setShots : ByteArray := prog_9_method_22_code
def yX7_setShots : MethodName := ⟨RX7, "setShots", "(II)I"⟩
abbrev cX7_setStuck : ByteArray := prog_9_method_23_code
def yX7_setStuck : MethodName := ⟨RX7, "setStuck", "(IZ)Z"⟩
abbrev cX7_told : ByteArray := prog_9_method_24_code
def yX7_told : MethodName := ⟨RX7, "told", "(II)I"⟩
abbrev cX7_pickup : ByteArray := prog_9_method_25_code
def yX7_pickup : MethodName := ⟨RX7, "pickup", "(I)I"⟩
abbrev cX7_steps : ByteArray := prog_9_method_26_code
def yX7_steps : MethodName := ⟨RX7, "steps", "(I)I"⟩
abbrev cX7_upstream : ByteArray := prog_9_method_27_code
def yX7_upstream : MethodName := ⟨RX7, "upstream", "(I)I"⟩
abbrev cX7_timeOf : ByteArray := prog_9_method_28_code
def yX7_timeOf : MethodName := ⟨RX7, "timeOf", "(ID)D"⟩
abbrev cX7_operatingTime : ByteArray := prog_9_method_29_code
def yX7_operatingTime : MethodName := ⟨RX7, "operatingTime", "(ID)D"⟩
abbrev cX7_sensitivity : ByteArray := prog_9_method_30_code
def yX7_sensitivity : MethodName := ⟨RX7, "sensitivity", "(I)D"⟩
abbrev cX7_setMargin : ByteArray := prog_9_method_31_code
def yX7_setMargin : MethodName := ⟨RX7, "setMargin", "(D)D"⟩
abbrev cX7_marginOf : ByteArray := prog_9_method_32_code
def yX7_marginOf : MethodName := ⟨RX7, "marginOf", "(II)D"⟩
abbrev cX7_margin : ByteArray := prog_9_method_33_code
def yX7_margin : MethodName := ⟨RX7, "margin", "(II)D"⟩
abbrev cX7_worst : ByteArray := prog_9_method_34_code
def yX7_worst : MethodName := ⟨RX7, "worst", "(I)D"⟩
abbrev cX7_isViolation : ByteArray := prog_9_method_35_code
def yX7_isViolation : MethodName := ⟨RX7, "isViolation", "(I)Z"⟩
abbrev cX7_violations : ByteArray := prog_9_method_36_code
def yX7_violations : MethodName := ⟨RX7, "violations", "()I"⟩
abbrev cX7_violationCount : ByteArray := prog_9_method_37_code
def yX7_violationCount : MethodName := ⟨RX7, "violationCount", "()I"⟩
abbrev cX7_violation : ByteArray := prog_9_method_38_code
def yX7_violation : MethodName := ⟨RX7, "violation", "(I)I"⟩
abbrev cX7_autoPickup : ByteArray := prog_9_method_39_code
def yX7_autoPickup : MethodName := ⟨RX7, "autoPickup", "(I)I"⟩
abbrev cX7_keeps : ByteArray := prog_9_method_40_code
def yX7_keeps : MethodName := ⟨RX7, "keeps", "(I)Z"⟩
abbrev cX7_autoGrade : ByteArray := prog_9_method_41_code
def yX7_autoGrade : MethodName := ⟨RX7, "autoGrade", "()I"⟩
abbrev cX7_record : ByteArray := prog_9_method_42_code
def yX7_record : MethodName := ⟨RX7, "record", "(IID)V"⟩
abbrev cX7_lineUp : ByteArray := prog_9_method_43_code
def yX7_lineUp : MethodName := ⟨RX7, "lineUp", "(DD)V"⟩
abbrev cX7_isPathOpen : ByteArray := prog_9_method_44_code
def yX7_isPathOpen : MethodName := ⟨RX7, "isPathOpen", "()Z"⟩
abbrev cX7_trips : ByteArray := prog_9_method_45_code
def yX7_trips : MethodName := ⟨RX7, "trips", "(I)Z"⟩
abbrev cX7_round : ByteArray := prog_9_method_46_code
def yX7_round : MethodName := ⟨RX7, "round", "(DDD)D"⟩
abbrev cX7_simulate : ByteArray := prog_9_method_47_code
def yX7_simulate : MethodName := ⟨RX7, "simulate", "(IID)I"⟩
abbrev cX7_eventCount : ByteArray := prog_9_method_48_code
def yX7_eventCount : MethodName := ⟨RX7, "eventCount", "()I"⟩
abbrev cX7_event : ByteArray := prog_9_method_49_code
def yX7_event : MethodName := ⟨RX7, "event", "(I)I"⟩
abbrev cX7_eventTime : ByteArray := prog_9_method_50_code
def yX7_eventTime : MethodName := ⟨RX7, "eventTime", "(I)D"⟩
abbrev cX7_clearedTime : ByteArray := prog_9_method_51_code
def yX7_clearedTime : MethodName := ⟨RX7, "clearedTime", "()D"⟩
abbrev cX7_openOnes : ByteArray := prog_9_method_52_code
def yX7_openOnes : MethodName := ⟨RX7, "openOnes", "()I"⟩
abbrev cX7_openBreakers : ByteArray := prog_9_method_53_code
def yX7_openBreakers : MethodName := ⟨RX7, "openBreakers", "()I"⟩
abbrev cX7_lostLoad : ByteArray := prog_9_method_54_code
def yX7_lostLoad : MethodName := ⟨RX7, "lostLoad", "()I"⟩
abbrev cX7_closeAll : ByteArray := prog_9_method_55_code
def yX7_closeAll : MethodName := ⟨RX7, "closeAll", "()I"⟩
abbrev cX7_undo : ByteArray := prog_9_method_56_code
def yX7_undo : MethodName := ⟨RX7, "undo", "()I"⟩
abbrev cX7_mixed : ByteArray := prog_9_method_57_code
def yX7_mixed : MethodName := ⟨RX7, "mixed", "(JJ)J"⟩
abbrev cX7_mixedReal : ByteArray := prog_9_method_58_code
def yX7_mixedReal : MethodName := ⟨RX7, "mixedReal", "(JD)J"⟩
abbrev cX7_digest : ByteArray := prog_9_method_59_code
def yX7_digest : MethodName := ⟨RX7, "digest", "()J"⟩
def RJx145de : String := "java/io/Serializable"
def TJx145de : u_T := fun k => match k with
  | _ => ("", "", "", false)
def tyJx145de : Nat → FieldType := fun k => match k with
  | _ => .int
abbrev wsJx145de0 : List Cond := u_ws RJx145de TJx145de 0
theorem nmJx145de : ∀ a, a < 0 → ∀ b, b < 0 → a ≠ b → (TJx145de a).2.1 ≠ (TJx145de b).2.1 := by decide +kernel
theorem tyJx145de_ok : ∀ k, k < 0 → parseFieldDescriptor (TJx145de k).2.2.1 = some (tyJx145de k) := by decide +kernel
def RJxb160c : String := "java/lang/Comparable"
def TJxb160c : u_T := fun k => match k with
  | _ => ("", "", "", false)
def tyJxb160c : Nat → FieldType := fun k => match k with
  | _ => .int
abbrev wsJxb160c0 : List Cond := u_ws RJxb160c TJxb160c 0
theorem nmJxb160c : ∀ a, a < 0 → ∀ b, b < 0 → a ≠ b → (TJxb160c a).2.1 ≠ (TJxb160c b).2.1 := by decide +kernel
theorem tyJxb160c_ok : ∀ k, k < 0 → parseFieldDescriptor (TJxb160c k).2.2.1 = some (tyJxb160c k) := by decide +kernel
def RJxe99ae : String := "java/lang/Double"
def TJxe99ae : u_T := fun k => match k with
  | _ => ("", "", "", false)
def tyJxe99ae : Nat → FieldType := fun k => match k with
  | _ => .int
abbrev wsJxe99ae0 : List Cond := u_ws RJxe99ae TJxe99ae 0
theorem nmJxe99ae : ∀ a, a < 0 → ∀ b, b < 0 → a ≠ b → (TJxe99ae a).2.1 ≠ (TJxe99ae b).2.1 := by decide +kernel
theorem tyJxe99ae_ok : ∀ k, k < 0 → parseFieldDescriptor (TJxe99ae k).2.2.1 = some (tyJxe99ae k) := by decide +kernel
abbrev cJxe99ae_isNaN_b9ae7 : ByteArray := prog_10_method_6_code
def yJxe99ae_isNaN_b9ae7 : MethodName := ⟨RJxe99ae, "isNaN", "(D)Z"⟩
abbrev cJxe99ae_doubleToLongBits_ccdee : ByteArray := prog_10_method_23_code
def yJxe99ae_doubleToLongBits_ccdee : MethodName := ⟨RJxe99ae, "doubleToLongBits", "(D)J"⟩
def RJ6 : String := "java/lang/Integer"
def TJ6 : u_T := fun k => match k with
  | _ => ("", "", "", false)
def tyJ6 : Nat → FieldType := fun k => match k with
  | _ => .int
abbrev wsJ60 : List Cond := u_ws RJ6 TJ6 0
theorem nmJ6 : ∀ a, a < 0 → ∀ b, b < 0 → a ≠ b → (TJ6 a).2.1 ≠ (TJ6 b).2.1 := by decide +kernel
theorem tyJ6_ok : ∀ k, k < 0 → parseFieldDescriptor (TJ6 k).2.2.1 = some (tyJ6 k) := by decide +kernel
abbrev cJ6_bitCount_0f7a4 : ByteArray := prog_15_method_49_code
def yJ6_bitCount_0f7a4 : MethodName := ⟨RJ6, "bitCount", "(I)I"⟩
def RJ9 : String := "java/lang/Math"
def TJ9 : u_T := fun k => match k with
  | _ => ("", "", "", false)
def tyJ9 : Nat → FieldType := fun k => match k with
  | _ => .int
abbrev wsJ90 : List Cond := u_ws RJ9 TJ9 0
theorem nmJ9 : ∀ a, a < 0 → ∀ b, b < 0 → a ≠ b → (TJ9 a).2.1 ≠ (TJ9 b).2.1 := by decide +kernel
theorem tyJ9_ok : ∀ k, k < 0 → parseFieldDescriptor (TJ9 k).2.2.1 = some (tyJ9 k) := by decide +kernel
abbrev cJ9_max_7cf53 : ByteArray := prog_16_method_65_code
def yJ9_max_7cf53 : MethodName := ⟨RJ9, "max", "(II)I"⟩
abbrev cJ9_min_7cf53 : ByteArray := prog_16_method_69_code
def yJ9_min_7cf53 : MethodName := ⟨RJ9, "min", "(II)I"⟩
def RJxd2413 : String := "java/lang/Number"
def TJxd2413 : u_T := fun k => match k with
  | _ => ("", "", "", false)
def tyJxd2413 : Nat → FieldType := fun k => match k with
  | _ => .int
abbrev wsJxd24130 : List Cond := u_ws RJxd2413 TJxd2413 0
theorem nmJxd2413 : ∀ a, a < 0 → ∀ b, b < 0 → a ≠ b → (TJxd2413 a).2.1 ≠ (TJxd2413 b).2.1 := by decide +kernel
theorem tyJxd2413_ok : ∀ k, k < 0 → parseFieldDescriptor (TJxd2413 k).2.2.1 = some (tyJxd2413 k) := by decide +kernel
def RJ0 : String := "java/lang/String"
def TJ0 : u_T := fun k => match k with
  | _ => ("", "", "", false)
def tyJ0 : Nat → FieldType := fun k => match k with
  | _ => .int
abbrev wsJ00 : List Cond := u_ws RJ0 TJ0 0
theorem nmJ0 : ∀ a, a < 0 → ∀ b, b < 0 → a ≠ b → (TJ0 a).2.1 ≠ (TJ0 b).2.1 := by decide +kernel
theorem tyJ0_ok : ∀ k, k < 0 → parseFieldDescriptor (TJ0 k).2.2.1 = some (tyJ0 k) := by decide +kernel
def RJ10 : String := "java/lang/System"
def TJ10 : u_T := fun k => match k with
  | _ => ("", "", "", false)
def tyJ10 : Nat → FieldType := fun k => match k with
  | _ => .int
abbrev wsJ100 : List Cond := u_ws RJ10 TJ10 0
theorem nmJ10 : ∀ a, a < 0 → ∀ b, b < 0 → a ≠ b → (TJ10 a).2.1 ≠ (TJ10 b).2.1 := by decide +kernel
theorem tyJ10_ok : ∀ k, k < 0 → parseFieldDescriptor (TJ10 k).2.2.1 = some (tyJ10 k) := by decide +kernel
def RJxfd54e : String := "java/lang/constant/Constable"
def TJxfd54e : u_T := fun k => match k with
  | _ => ("", "", "", false)
def tyJxfd54e : Nat → FieldType := fun k => match k with
  | _ => .int
abbrev wsJxfd54e0 : List Cond := u_ws RJxfd54e TJxfd54e 0
theorem nmJxfd54e : ∀ a, a < 0 → ∀ b, b < 0 → a ≠ b → (TJxfd54e a).2.1 ≠ (TJxfd54e b).2.1 := by decide +kernel
theorem tyJxfd54e_ok : ∀ k, k < 0 → parseFieldDescriptor (TJxfd54e k).2.2.1 = some (tyJxfd54e k) := by decide +kernel
def RJx3cf43 : String := "java/lang/constant/ConstantDesc"
def TJx3cf43 : u_T := fun k => match k with
  | _ => ("", "", "", false)
def tyJx3cf43 : Nat → FieldType := fun k => match k with
  | _ => .int
abbrev wsJx3cf430 : List Cond := u_ws RJx3cf43 TJx3cf43 0
theorem nmJx3cf43 : ∀ a, a < 0 → ∀ b, b < 0 → a ≠ b → (TJx3cf43 a).2.1 ≠ (TJx3cf43 b).2.1 := by decide +kernel
theorem tyJx3cf43_ok : ∀ k, k < 0 → parseFieldDescriptor (TJx3cf43 k).2.2.1 = some (tyJx3cf43 k) := by decide +kernel
def RJ7 : String := "java/util/Arrays"
def TJ7 : u_T := fun k => match k with
  | _ => ("", "", "", false)
def tyJ7 : Nat → FieldType := fun k => match k with
  | _ => .int
abbrev wsJ70 : List Cond := u_ws RJ7 TJ7 0
theorem nmJ7 : ∀ a, a < 0 → ∀ b, b < 0 → a ≠ b → (TJ7 a).2.1 ≠ (TJ7 b).2.1 := by decide +kernel
theorem tyJ7_ok : ∀ k, k < 0 → parseFieldDescriptor (TJ7 k).2.2.1 = some (tyJ7 k) := by decide +kernel
abbrev cJ7_fill_53178 : ByteArray := prog_22_method_103_code
def yJ7_fill_53178 : MethodName := ⟨RJ7, "fill", "([II)V"⟩
def RL : String := "FeederProtectionLaw"
abbrev cL_setSource : ByteArray := method_3_code
def yL_setSource : MethodName := ⟨RL, "setSource", "(LFeederProtection;DD[D)I"⟩
abbrev cL_addLine : ByteArray := method_4_code
def yL_addLine : MethodName := ⟨RL, "addLine", "(LFeederProtection;ID[J)I"⟩
abbrev cL_setLoad : ByteArray := method_5_code
def yL_setLoad : MethodName := ⟨RL, "setLoad", "(LFeederProtection;II[J)I"⟩
abbrev cL_loadCurrent : ByteArray := method_6_code
def yL_loadCurrent : MethodName := ⟨RL, "loadCurrent", "(LFeederProtection;I[J)I"⟩
abbrev cL_faultCurrent : ByteArray := method_7_code
def yL_faultCurrent : MethodName := ⟨RL, "faultCurrent", "(LFeederProtection;II[D)I"⟩
abbrev cL_setRelay : ByteArray := method_8_code
def yL_setRelay : MethodName := ⟨RL, "setRelay", "(LFeederProtection;IIII[J)I"⟩
abbrev cL_setInstantaneous : ByteArray := method_9_code
def yL_setInstantaneous : MethodName := ⟨RL, "setInstantaneous", "(LFeederProtection;II[J)I"⟩
abbrev cL_setShots : ByteArray := method_10_code
def yL_setShots : MethodName := ⟨RL, "setShots", "(LFeederProtection;II[J)I"⟩
abbrev cL_setStuck : ByteArray := method_11_code
def yL_setStuck : MethodName := ⟨RL, "setStuck", "(LFeederProtection;IZ[J)I"⟩
abbrev cL_pickup : ByteArray := method_12_code
def yL_pickup : MethodName := ⟨RL, "pickup", "(LFeederProtection;I[J)I"⟩
abbrev cL_steps : ByteArray := method_13_code
def yL_steps : MethodName := ⟨RL, "steps", "(LFeederProtection;I[J)I"⟩
abbrev cL_upstream : ByteArray := method_14_code
def yL_upstream : MethodName := ⟨RL, "upstream", "(LFeederProtection;I[J)I"⟩
abbrev cL_operatingTime : ByteArray := method_15_code
def yL_operatingTime : MethodName := ⟨RL, "operatingTime", "(LFeederProtection;ID[D)I"⟩
abbrev cL_sensitivity : ByteArray := method_16_code
def yL_sensitivity : MethodName := ⟨RL, "sensitivity", "(LFeederProtection;I[D)I"⟩
abbrev cL_setMargin : ByteArray := method_17_code
def yL_setMargin : MethodName := ⟨RL, "setMargin", "(LFeederProtection;D[D)I"⟩
abbrev cL_margin : ByteArray := method_18_code
def yL_margin : MethodName := ⟨RL, "margin", "(LFeederProtection;II[D)I"⟩
abbrev cL_violation : ByteArray := method_19_code
def yL_violation : MethodName := ⟨RL, "violation", "(LFeederProtection;I[J)I"⟩
abbrev cL_autoPickup : ByteArray := method_20_code
def yL_autoPickup : MethodName := ⟨RL, "autoPickup", "(LFeederProtection;I[J)I"⟩
abbrev cL_simulate : ByteArray := method_21_code
def yL_simulate : MethodName := ⟨RL, "simulate", "(LFeederProtection;IID[J)I"⟩
abbrev cL_event : ByteArray := method_22_code
def yL_event : MethodName := ⟨RL, "event", "(LFeederProtection;I[J)I"⟩
abbrev cL_eventTime : ByteArray := method_23_code
def yL_eventTime : MethodName := ⟨RL, "eventTime", "(LFeederProtection;I[D)I"⟩
abbrev cL_undo : ByteArray := method_24_code
def yL_undo : MethodName := ⟨RL, "undo", "(LFeederProtection;[J)I"⟩
abbrev cL_law : ByteArray := code
def yL_law : MethodName := ⟨RL, "law", "([I)Z"⟩
abbrev vwCl : List vw_C := [(RX0, TX0, 4), (RX1, TX1, 7), (RX2, TX2, 7), (RX3, TX3, 6), (RX4, TX4, 4), (RX5, TX5, 3), (RX6, TX6, 3), (RX7, TX7, 15)]
