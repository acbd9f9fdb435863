def RX0 : String := "TenantPlacement$Amounts"
def TX0 : u_T := fun k => match k with
  | 0 => ("TenantPlacement$Amounts", "storage", "I", false)
  | 1 => ("TenantPlacement$Amounts", "load", "I", false)
  | _ => ("TenantPlacement$Amounts", "connections", "I", false)
def tyX0 : Nat → FieldType := fun k => match k with
  | 0 => .int
  | 1 => .int
  | _ => .int
abbrev wsX00 : List Cond := u_ws RX0 TX0 3
theorem nmX0 : ∀ a, a < 3 → ∀ b, b < 3 → a ≠ b → (TX0 a).2.1 ≠ (TX0 b).2.1 := by decide +kernel
theorem tyX0_ok : ∀ k, k < 3 → parseFieldDescriptor (TX0 k).2.2.1 = some (tyX0 k) := by decide +kernel
abbrev cX0_init : ByteArray := prog_2_method_1_code
def yX0_init : MethodName := ⟨RX0, "<init>", "(III)V"⟩
abbrev cX0_of : ByteArray := prog_2_method_2_code
def yX0_of : MethodName := ⟨RX0, "of", "(I)I"⟩
abbrev cX0_put : ByteArray := prog_2_method_3_code
def yX0_put : MethodName := ⟨RX0, "put", "(II)V"⟩
abbrev cX0_add : ByteArray := prog_2_method_4_code
def yX0_add : MethodName := ⟨RX0, "add", "(LTenantPlacement$Amounts;)V"⟩
abbrev cX0_subtract : ByteArray := prog_2_method_5_code
def yX0_subtract : MethodName := ⟨RX0, "subtract", "(LTenantPlacement$Amounts;)V"⟩
abbrev cX0_clear : ByteArray := prog_2_method_6_code
def yX0_clear : MethodName := ⟨RX0, "clear", "()V"⟩
def RX1 : String := "TenantPlacement$Move"
def TX1 : u_T := fun k => match k with
  | 0 => ("TenantPlacement$Move", "phase", "C", false)
  | 1 => ("TenantPlacement$Move", "source", "I", false)
  | 2 => ("TenantPlacement$Move", "target", "I", false)
  | _ => ("TenantPlacement$Move", "left", "I", false)
def tyX1 : Nat → FieldType := fun k => match k with
  | 0 => .char
  | 1 => .int
  | 2 => .int
  | _ => .int
abbrev wsX10 : List Cond := u_ws RX1 TX1 4
theorem nmX1 : ∀ a, a < 4 → ∀ b, b < 4 → a ≠ b → (TX1 a).2.1 ≠ (TX1 b).2.1 := by decide +kernel
theorem tyX1_ok : ∀ k, k < 4 → parseFieldDescriptor (TX1 k).2.2.1 = some (tyX1 k) := by decide +kernel
abbrev cX1_init : ByteArray := prog_3_method_1_code
def yX1_init : MethodName := ⟨RX1, "<init>", "()V"⟩
abbrev cX1_isUnderWay : ByteArray := prog_3_method_2_code
def yX1_isUnderWay : MethodName := ⟨RX1, "isUnderWay", "()Z"⟩
abbrev cX1_isBeforeCutting : ByteArray := prog_3_method_3_code
def yX1_isBeforeCutting : MethodName := ⟨RX1, "isBeforeCutting", "()Z"⟩
abbrev cX1_isCleaning : ByteArray := prog_3_method_4_code
def yX1_isCleaning : MethodName := ⟨RX1, "isCleaning", "(I)Z"⟩
abbrev cX1_begin : ByteArray := prog_3_method_5_code
def yX1_begin : MethodName := ⟨RX1, "begin", "(III)V"⟩
abbrev cX1_end : ByteArray := prog_3_method_6_code
def yX1_end : MethodName := ⟨RX1, "end", "()V"⟩
abbrev cX1_goOn : ByteArray := prog_3_method_7_code
def yX1_goOn : MethodName := ⟨RX1, "goOn", "(Z)Z"⟩
abbrev cX1_cleanAnew : ByteArray := prog_3_method_8_code
def yX1_cleanAnew : MethodName := ⟨RX1, "cleanAnew", "()V"⟩
abbrev cX1_turnRound : ByteArray := prog_3_method_9_code
def yX1_turnRound : MethodName := ⟨RX1, "turnRound", "()V"⟩
abbrev cX1_copyFrom : ByteArray := prog_3_method_10_code
def yX1_copyFrom : MethodName := ⟨RX1, "copyFrom", "(LTenantPlacement$Move;)V"⟩
def RX2 : String := "TenantPlacement$Planner"
def TX2 : u_T := fun k => match k with
  | 0 => ("TenantPlacement$Planner", "sound", "I", false)
  | _ => ("TenantPlacement$Planner", "fewest", "I", false)
def tyX2 : Nat → FieldType := fun k => match k with
  | 0 => .int
  | _ => .int
abbrev wsX20 : List Cond := u_ws RX2 TX2 2
theorem nmX2 : ∀ a, a < 2 → ∀ b, b < 2 → a ≠ b → (TX2 a).2.1 ≠ (TX2 b).2.1 := by decide +kernel
theorem tyX2_ok : ∀ k, k < 2 → parseFieldDescriptor (TX2 k).2.2.1 = some (tyX2 k) := by decide +kernel
abbrev cX2_init : ByteArray := prog_4_method_1_code
def yX2_init : MethodName := ⟨RX2, "<init>", "()V"⟩
abbrev cX2_tryAll : ByteArray := prog_4_method_2_code
def yX2_tryAll : MethodName := ⟨RX2, "tryAll", "([LTenantPlacement$Shard;[LTenantPlacement$Tenant;)V"⟩
abbrev cX2_findBest : ByteArray := prog_4_method_3_code
def yX2_findBest : MethodName := ⟨RX2, "findBest", "([LTenantPlacement$Shard;[LTenantPlacement$Tenant;)I"⟩
abbrev cX2_clearTrials : ByteArray := prog_4_method_4_code
def yX2_clearTrials : MethodName := ⟨RX2, "clearTrials", "([LTenantPlacement$Shard;)V"⟩
abbrev cX2_tryFrom : ByteArray := prog_4_method_5_code
def yX2_tryFrom : MethodName := ⟨RX2, "tryFrom", "(LTenantPlacement$Planner;[LTenantPlacement$Shard;[LTenantPlacement$Tenant;II)V"⟩
abbrev cX2_noteSound : ByteArray := prog_4_method_6_code
def yX2_noteSound : MethodName := ⟨RX2, "noteSound", "(I)V"⟩
abbrev cX2_findFrom : ByteArray := prog_4_method_7_code
def yX2_findFrom : MethodName := ⟨RX2, "findFrom", "([LTenantPlacement$Shard;[LTenantPlacement$Tenant;II)Z"⟩
abbrev cX2_tenantOrNull : ByteArray := prog_4_method_8_code
def yX2_tenantOrNull : MethodName := ⟨RX2, "tenantOrNull", "([LTenantPlacement$Tenant;I)LTenantPlacement$Tenant;"⟩
def RX3 : String := "TenantPlacement$Shard"
def TX3 : u_T := fun k => match k with
  | 0 => ("TenantPlacement$Shard", "limits", "LTenantPlacement$Amounts;", true)
  | 1 => ("TenantPlacement$Shard", "use", "LTenantPlacement$Amounts;", true)
  | 2 => ("TenantPlacement$Shard", "isOpen", "Z", false)
  | 3 => ("TenantPlacement$Shard", "trialUse", "LTenantPlacement$Amounts;", true)
  | _ => ("TenantPlacement$Shard", "trialTenants", "I", false)
def tyX3 : Nat → FieldType := fun k => match k with
  | 0 => .object "TenantPlacement$Amounts"
  | 1 => .object "TenantPlacement$Amounts"
  | 2 => .boolean
  | 3 => .object "TenantPlacement$Amounts"
  | _ => .int
abbrev wsX30 : List Cond := u_ws RX3 TX3 5
theorem nmX3 : ∀ a, a < 5 → ∀ b, b < 5 → a ≠ b → (TX3 a).2.1 ≠ (TX3 b).2.1 := by decide +kernel
theorem tyX3_ok : ∀ k, k < 5 → parseFieldDescriptor (TX3 k).2.2.1 = some (tyX3 k) := by decide +kernel
abbrev cX3_init : ByteArray := prog_5_method_1_code
def yX3_init : MethodName := ⟨RX3, "<init>", "(III)V"⟩
abbrev cX3_usesTooMuch : ByteArray := prog_5_method_2_code
def yX3_usesTooMuch : MethodName := ⟨RX3, "usesTooMuch", "()Z"⟩
abbrev cX3_hasRoom : ByteArray := prog_5_method_3_code
def yX3_hasRoom : MethodName := ⟨RX3, "hasRoom", "(III)Z"⟩
abbrev cX3_hasRoomBesidesStorage : ByteArray := prog_5_method_4_code
def yX3_hasRoomBesidesStorage : MethodName := ⟨RX3, "hasRoomBesidesStorage", "(LTenantPlacement$Amounts;)Z"⟩
abbrev cX3_takesInTrial : ByteArray := prog_5_method_5_code
def yX3_takesInTrial : MethodName := ⟨RX3, "takesInTrial", "(LTenantPlacement$Tenant;)Z"⟩
abbrev cX3_putInTrial : ByteArray := prog_5_method_6_code
def yX3_putInTrial : MethodName := ⟨RX3, "putInTrial", "(ILTenantPlacement$Tenant;)V"⟩
abbrev cX3_takeFromTrial : ByteArray := prog_5_method_7_code
def yX3_takeFromTrial : MethodName := ⟨RX3, "takeFromTrial", "(ILTenantPlacement$Tenant;)V"⟩
abbrev cX3_clearTrial : ByteArray := prog_5_method_8_code
def yX3_clearTrial : MethodName := ⟨RX3, "clearTrial", "()V"⟩
def RX4 : String := "TenantPlacement$Tenant"
def TX4 : u_T := fun k => match k with
  | 0 => ("TenantPlacement$Tenant", "sizes", "LTenantPlacement$Amounts;", true)
  | 1 => ("TenantPlacement$Tenant", "growth", "I", true)
  | 2 => ("TenantPlacement$Tenant", "move", "LTenantPlacement$Move;", true)
  | 3 => ("TenantPlacement$Tenant", "server", "I", false)
  | 4 => ("TenantPlacement$Tenant", "windowFirst", "I", false)
  | 5 => ("TenantPlacement$Tenant", "windowEnd", "I", false)
  | 6 => ("TenantPlacement$Tenant", "apartFrom", "I", false)
  | _ => ("TenantPlacement$Tenant", "trialShard", "I", false)
def tyX4 : Nat → FieldType := fun k => match k with
  | 0 => .object "TenantPlacement$Amounts"
  | 1 => .int
  | 2 => .object "TenantPlacement$Move"
  | 3 => .int
  | 4 => .int
  | 5 => .int
  | 6 => .int
  | _ => .int
abbrev wsX40 : List Cond := u_ws RX4 TX4 8
theorem nmX4 : ∀ a, a < 8 → ∀ b, b < 8 → a ≠ b → (TX4 a).2.1 ≠ (TX4 b).2.1 := by decide +kernel
theorem tyX4_ok : ∀ k, k < 8 → parseFieldDescriptor (TX4 k).2.2.1 = some (tyX4 k) := by decide +kernel
abbrev cX4_init : ByteArray := prog_6_method_1_code
def yX4_init : MethodName := ⟨RX4, "<init>", "(IIIII)V"⟩
abbrev cX4_isApartFrom : ByteArray := prog_6_method_2_code
def yX4_isApartFrom : MethodName := ⟨RX4, "isApartFrom", "(I)Z"⟩
abbrev cX4_isPresentOn : ByteArray := prog_6_method_3_code
def yX4_isPresentOn : MethodName := ⟨RX4, "isPresentOn", "(I)Z"⟩
abbrev cX4_useOn : ByteArray := prog_6_method_4_code
def yX4_useOn : MethodName := ⟨RX4, "useOn", "(II)I"⟩
abbrev cX4_windowHours : ByteArray := prog_6_method_5_code
def yX4_windowHours : MethodName := ⟨RX4, "windowHours", "()I"⟩
abbrev cX4_isInWindow : ByteArray := prog_6_method_6_code
def yX4_isInWindow : MethodName := ⟨RX4, "isInWindow", "(I)Z"⟩
abbrev cX4_hoursToWindow : ByteArray := prog_6_method_7_code
def yX4_hoursToWindow : MethodName := ⟨RX4, "hoursToWindow", "(I)I"⟩
def RX5 : String := "TenantPlacement"
def TX5 : u_T := fun k => match k with
  | 0 => ("TenantPlacement", "allShards", "[LTenantPlacement$Shard;", true)
  | 1 => ("TenantPlacement", "allTenants", "[LTenantPlacement$Tenant;", true)
  | 2 => ("TenantPlacement", "planner", "LTenantPlacement$Planner;", true)
  | 3 => ("TenantPlacement", "trialMove", "LTenantPlacement$Move;", true)
  | 4 => ("TenantPlacement", "pairs", "I", false)
  | 5 => ("TenantPlacement", "now", "I", false)
  | 6 => ("TenantPlacement", "switchesSoFar", "I", false)
  | _ => ("TenantPlacement", "hoursOverSoFar", "J", false)
def tyX5 : Nat → FieldType := fun k => match k with
  | 0 => .array (.object "TenantPlacement$Shard")
  | 1 => .array (.object "TenantPlacement$Tenant")
  | 2 => .object "TenantPlacement$Planner"
  | 3 => .object "TenantPlacement$Move"
  | 4 => .int
  | 5 => .int
  | 6 => .int
  | _ => .long
abbrev wsX50 : List Cond := u_ws RX5 TX5 8
theorem nmX5 : ∀ a, a < 8 → ∀ b, b < 8 → a ≠ b → (TX5 a).2.1 ≠ (TX5 b).2.1 := by decide +kernel
theorem tyX5_ok : ∀ k, k < 8 → parseFieldDescriptor (TX5 k).2.2.1 = some (tyX5 k) := by decide +kernel
abbrev cX5_init : ByteArray := prog_1_method_1_code
def yX5_init : MethodName := ⟨RX5, "<init>", "()V"⟩
abbrev cX5_addShard : ByteArray := prog_1_method_2_code
def yX5_addShard : MethodName := ⟨RX5, "addShard", "(III)I"⟩
abbrev cX5_setOpen : ByteArray := prog_1_method_3_code
def yX5_setOpen : MethodName := ⟨RX5, "setOpen", "(IZ)Z"⟩
abbrev cX5_setLimit : ByteArray := prog_1_method_4_code
def yX5_setLimit : MethodName := ⟨RX5, "setLimit", "(III)I"⟩
abbrev cX5_addTenant : ByteArray := prog_1_method_5_code
def yX5_addTenant : MethodName := ⟨RX5, "addTenant", "(IIIII)I"⟩
abbrev cX5_setSize : ByteArray := prog_1_method_6_code
def yX5_setSize : MethodName := ⟨RX5, "setSize", "(III)I"⟩
abbrev cX5_setWindow : ByteArray := prog_1_method_7_code
def yX5_setWindow : MethodName := ⟨RX5, "setWindow", "(III)I"⟩
abbrev cX5_keepApart : ByteArray := prog_1_method_8_code
def yX5_keepApart : MethodName := ⟨RX5, "keepApart", "(II)I"⟩
abbrev cX5_move : ByteArray := prog_1_method_9_code
def yX5_move : MethodName := ⟨RX5, "move", "(II)I"⟩
abbrev cX5_reason : ByteArray := prog_1_method_10_code
def yX5_reason : MethodName := ⟨RX5, "reason", "(II)C"⟩
abbrev cX5_fail : ByteArray := prog_1_method_11_code
def yX5_fail : MethodName := ⟨RX5, "fail", "(I)C"⟩
abbrev cX5_pass : ByteArray := prog_1_method_12_code
def yX5_pass : MethodName := ⟨RX5, "pass", "(I)I"⟩
abbrev cX5_time : ByteArray := prog_1_method_13_code
def yX5_time : MethodName := ⟨RX5, "time", "()I"⟩
abbrev cX5_phase : ByteArray := prog_1_method_14_code
def yX5_phase : MethodName := ⟨RX5, "phase", "(I)C"⟩
abbrev cX5_targetOf : ByteArray := prog_1_method_15_code
def yX5_targetOf : MethodName := ⟨RX5, "targetOf", "(I)I"⟩
abbrev cX5_hoursLeft : ByteArray := prog_1_method_16_code
def yX5_hoursLeft : MethodName := ⟨RX5, "hoursLeft", "(I)I"⟩
abbrev cX5_hoursByPassing : ByteArray := prog_1_method_17_code
def yX5_hoursByPassing : MethodName := ⟨RX5, "hoursByPassing", "(I)I"⟩
abbrev cX5_moves : ByteArray := prog_1_method_18_code
def yX5_moves : MethodName := ⟨RX5, "moves", "()I"⟩
abbrev cX5_shards : ByteArray := prog_1_method_19_code
def yX5_shards : MethodName := ⟨RX5, "shards", "()I"⟩
abbrev cX5_tenants : ByteArray := prog_1_method_20_code
def yX5_tenants : MethodName := ⟨RX5, "tenants", "()I"⟩
abbrev cX5_servedBy : ByteArray := prog_1_method_21_code
def yX5_servedBy : MethodName := ⟨RX5, "servedBy", "(I)I"⟩
abbrev cX5_sizeOf : ByteArray := prog_1_method_22_code
def yX5_sizeOf : MethodName := ⟨RX5, "sizeOf", "(II)I"⟩
abbrev cX5_used : ByteArray := prog_1_method_23_code
def yX5_used : MethodName := ⟨RX5, "used", "(II)I"⟩
abbrev cX5_usedByLooking : ByteArray := prog_1_method_24_code
def yX5_usedByLooking : MethodName := ⟨RX5, "usedByLooking", "(II)I"⟩
abbrev cX5_isOver : ByteArray := prog_1_method_25_code
def yX5_isOver : MethodName := ⟨RX5, "isOver", "(I)Z"⟩
abbrev cX5_served : ByteArray := prog_1_method_26_code
def yX5_served : MethodName := ⟨RX5, "served", "(I)I"⟩
abbrev cX5_fewestMoves : ByteArray := prog_1_method_27_code
def yX5_fewestMoves : MethodName := ⟨RX5, "fewestMoves", "()I"⟩
abbrev cX5_fewestByTrying : ByteArray := prog_1_method_28_code
def yX5_fewestByTrying : MethodName := ⟨RX5, "fewestByTrying", "()I"⟩
abbrev cX5_planned : ByteArray := prog_1_method_29_code
def yX5_planned : MethodName := ⟨RX5, "planned", "(I)I"⟩
abbrev cX5_soundPlans : ByteArray := prog_1_method_30_code
def yX5_soundPlans : MethodName := ⟨RX5, "soundPlans", "()I"⟩
abbrev cX5_switches : ByteArray := prog_1_method_31_code
def yX5_switches : MethodName := ⟨RX5, "switches", "()I"⟩
abbrev cX5_hoursOver : ByteArray := prog_1_method_32_code
def yX5_hoursOver : MethodName := ⟨RX5, "hoursOver", "()J"⟩
abbrev cX5_shareOf : ByteArray := prog_1_method_33_code
def yX5_shareOf : MethodName := ⟨RX5, "shareOf", "(II)F"⟩
abbrev cX5_meanStorage : ByteArray := prog_1_method_34_code
def yX5_meanStorage : MethodName := ⟨RX5, "meanStorage", "()D"⟩
abbrev cX5_requireRange : ByteArray := prog_1_method_35_code
def yX5_requireRange : MethodName := ⟨RX5, "requireRange", "(III)V"⟩
abbrev cX5_requireMeasure : ByteArray := prog_1_method_36_code
def yX5_requireMeasure : MethodName := ⟨RX5, "requireMeasure", "(I)V"⟩
abbrev cX5_requirePlan : ByteArray := prog_1_method_37_code
def yX5_requirePlan : MethodName := ⟨RX5, "requirePlan", "(I)V"⟩
abbrev cX5_shardOrNull : ByteArray := prog_1_method_38_code
def yX5_shardOrNull : MethodName := ⟨RX5, "shardOrNull", "(I)LTenantPlacement$Shard;"⟩
abbrev cX5_knownShard : ByteArray := prog_1_method_39_code
def yX5_knownShard : MethodName := ⟨RX5, "knownShard", "(I)LTenantPlacement$Shard;"⟩
abbrev cX5_knownTenant : ByteArray := prog_1_method_40_code
def yX5_knownTenant : MethodName := ⟨RX5, "knownTenant", "(I)LTenantPlacement$Tenant;"⟩
abbrev cX5_movingTenant : ByteArray := prog_1_method_41_code
def yX5_movingTenant : MethodName := ⟨RX5, "movingTenant", "(I)LTenantPlacement$Tenant;"⟩
abbrev cX5_hourOfDay : ByteArray := prog_1_method_42_code
def yX5_hourOfDay : MethodName := ⟨RX5, "hourOfDay", "(I)I"⟩
abbrev cX5_countUse : ByteArray := prog_1_method_43_code
def yX5_countUse : MethodName := ⟨RX5, "countUse", "(LTenantPlacement$Tenant;I)V"⟩
abbrev cX5_isBarred : ByteArray := prog_1_method_44_code
def yX5_isBarred : MethodName := ⟨RX5, "isBarred", "(ILTenantPlacement$Tenant;)Z"⟩
abbrev cX5_canGoBack : ByteArray := prog_1_method_45_code
def yX5_canGoBack : MethodName := ⟨RX5, "canGoBack", "(LTenantPlacement$Tenant;)Z"⟩
abbrev cX5_goBack : ByteArray := prog_1_method_46_code
def yX5_goBack : MethodName := ⟨RX5, "goBack", "(LTenantPlacement$Tenant;)V"⟩
abbrev cX5_noteHoursOver : ByteArray := prog_1_method_47_code
def yX5_noteHoursOver : MethodName := ⟨RX5, "noteHoursOver", "()V"⟩
abbrev cX5_goOnWithMoves : ByteArray := prog_1_method_48_code
def yX5_goOnWithMoves : MethodName := ⟨RX5, "goOnWithMoves", "()I"⟩
abbrev cX5_goOn : ByteArray := prog_1_method_49_code
def yX5_goOn : MethodName := ⟨RX5, "goOn", "(LTenantPlacement$Tenant;)Z"⟩
abbrev cX5_growStorage : ByteArray := prog_1_method_50_code
def yX5_growStorage : MethodName := ⟨RX5, "growStorage", "()V"⟩
def RX6 : String := "TenantPlacementModel"
def TX6 : u_T := fun k => match k with
  | 0 => ("TenantPlacementModel", "shards", "I", false)
  | 1 => ("TenantPlacementModel", "limits", "[I", true)
  | 2 => ("TenantPlacementModel", "areClosed", "[Z", true)
  | 3 => ("TenantPlacementModel", "tenants", "I", false)
  | 4 => ("TenantPlacementModel", "sizes", "[I", true)
  | 5 => ("TenantPlacementModel", "growths", "[I", true)
  | 6 => ("TenantPlacementModel", "firsts", "[I", true)
  | 7 => ("TenantPlacementModel", "ends", "[I", true)
  | 8 => ("TenantPlacementModel", "servers", "[I", true)
  | 9 => ("TenantPlacementModel", "phases", "[I", true)
  | 10 => ("TenantPlacementModel", "sources", "[I", true)
  | 11 => ("TenantPlacementModel", "targets", "[I", true)
  | 12 => ("TenantPlacementModel", "lefts", "[I", true)
  | 13 => ("TenantPlacementModel", "pairs", "I", false)
  | 14 => ("TenantPlacementModel", "pairOnes", "[I", true)
  | 15 => ("TenantPlacementModel", "pairOthers", "[I", true)
  | 16 => ("TenantPlacementModel", "time", "I", false)
  | 17 => ("TenantPlacementModel", "switches", "I", false)
  | 18 => ("TenantPlacementModel", "over", "J", false)
  | 19 => ("TenantPlacementModel", "plan", "[I", true)
  | 20 => ("TenantPlacementModel", "best", "[I", true)
  | 21 => ("TenantPlacementModel", "bestMoves", "I", false)
  | _ => ("TenantPlacementModel", "code", "I", false)
def tyX6 : Nat → FieldType := fun k => match k with
  | 0 => .int
  | 1 => .array .int
  | 2 => .array .boolean
  | 3 => .int
  | 4 => .array .int
  | 5 => .array .int
  | 6 => .array .int
  | 7 => .array .int
  | 8 => .array .int
  | 9 => .array .int
  | 10 => .array .int
  | 11 => .array .int
  | 12 => .array .int
  | 13 => .int
  | 14 => .array .int
  | 15 => .array .int
  | 16 => .int
  | 17 => .int
  | 18 => .long
  | 19 => .array .int
  | 20 => .array .int
  | 21 => .int
  | _ => .int
abbrev wsX60 : List Cond := u_ws RX6 TX6 23
theorem nmX6 : ∀ a, a < 23 → ∀ b, b < 23 → a ≠ b → (TX6 a).2.1 ≠ (TX6 b).2.1 := by decide +kernel
theorem tyX6_ok : ∀ k, k < 23 → parseFieldDescriptor (TX6 k).2.2.1 = some (tyX6 k) := by decide +kernel
abbrev cX6_init : ByteArray := prog_8_method_1_code
def yX6_init : MethodName := ⟨RX6, "<init>", "()V"⟩
abbrev cX6_thrown : ByteArray := prog_8_method_2_code
def yX6_thrown : MethodName := ⟨RX6, "thrown", "()I"⟩
abbrev cX6_fails : ByteArray := prog_8_method_3_code
def yX6_fails : MethodName := ⟨RX6, "fails", "(I)Z"⟩
abbrev cX6_tells : ByteArray := prog_8_method_4_code
def yX6_tells : MethodName := ⟨RX6, "tells", "(I)I"⟩
abbrev cX6_in : ByteArray := prog_8_method_5_code
def yX6_in : MethodName := ⟨RX6, "in", "(III)Z"⟩
abbrev cX6_isNoShard : ByteArray := prog_8_method_6_code
def yX6_isNoShard : MethodName := ⟨RX6, "isNoShard", "(I)Z"⟩
abbrev cX6_isNoTenant : ByteArray := prog_8_method_7_code
def yX6_isNoTenant : MethodName := ⟨RX6, "isNoTenant", "(I)Z"⟩
abbrev cX6_isMeasure : ByteArray := prog_8_method_8_code
def yX6_isMeasure : MethodName := ⟨RX6, "isMeasure", "(I)Z"⟩
abbrev cX6_addShard : ByteArray := prog_8_method_9_code
def yX6_addShard : MethodName := ⟨RX6, "addShard", "(III)I"⟩
abbrev cX6_setOpen : ByteArray := prog_8_method_10_code
def yX6_setOpen : MethodName := ⟨RX6, "setOpen", "(IZ)Z"⟩
abbrev cX6_setLimit : ByteArray := prog_8_method_11_code
def yX6_setLimit : MethodName := ⟨RX6, "setLimit", "(III)I"⟩
abbrev cX6_isComing : ByteArray := prog_8_method_12_code
def yX6_isComing : MethodName := ⟨RX6, "isComing", "(II)Z"⟩
abbrev cX6_isPresent : ByteArray := prog_8_method_13_code
def yX6_isPresent : MethodName := ⟨RX6, "isPresent", "(II)Z"⟩
abbrev cX6_use : ByteArray := prog_8_method_14_code
def yX6_use : MethodName := ⟨RX6, "use", "(II)I"⟩
abbrev cX6_isFull : ByteArray := prog_8_method_15_code
def yX6_isFull : MethodName := ⟨RX6, "isFull", "(III)Z"⟩
abbrev cX6_addTenant : ByteArray := prog_8_method_16_code
def yX6_addTenant : MethodName := ⟨RX6, "addTenant", "(IIIII)I"⟩
abbrev cX6_setSize : ByteArray := prog_8_method_17_code
def yX6_setSize : MethodName := ⟨RX6, "setSize", "(III)I"⟩
abbrev cX6_isInWindow : ByteArray := prog_8_method_18_code
def yX6_isInWindow : MethodName := ⟨RX6, "isInWindow", "(II)Z"⟩
abbrev cX6_setWindow : ByteArray := prog_8_method_19_code
def yX6_setWindow : MethodName := ⟨RX6, "setWindow", "(III)I"⟩
abbrev cX6_areApart : ByteArray := prog_8_method_20_code
def yX6_areApart : MethodName := ⟨RX6, "areApart", "(II)Z"⟩
abbrev cX6_keepApart : ByteArray := prog_8_method_21_code
def yX6_keepApart : MethodName := ⟨RX6, "keepApart", "(II)I"⟩
abbrev cX6_isBarred : ByteArray := prog_8_method_22_code
def yX6_isBarred : MethodName := ⟨RX6, "isBarred", "(II)Z"⟩
abbrev cX6_hasRoom : ByteArray := prog_8_method_23_code
def yX6_hasRoom : MethodName := ⟨RX6, "hasRoom", "(III)Z"⟩
abbrev cX6_why : ByteArray := prog_8_method_24_code
def yX6_why : MethodName := ⟨RX6, "why", "(II)C"⟩
abbrev cX6_underWay : ByteArray := prog_8_method_25_code
def yX6_underWay : MethodName := ⟨RX6, "underWay", "()I"⟩
abbrev cX6_move : ByteArray := prog_8_method_26_code
def yX6_move : MethodName := ⟨RX6, "move", "(II)I"⟩
abbrev cX6_reason : ByteArray := prog_8_method_27_code
def yX6_reason : MethodName := ⟨RX6, "reason", "(II)C"⟩
abbrev cX6_fail : ByteArray := prog_8_method_28_code
def yX6_fail : MethodName := ⟨RX6, "fail", "(I)C"⟩
abbrev cX6_isTooMuch : ByteArray := prog_8_method_29_code
def yX6_isTooMuch : MethodName := ⟨RX6, "isTooMuch", "(I)Z"⟩
abbrev cX6_goesOn : ByteArray := prog_8_method_30_code
def yX6_goesOn : MethodName := ⟨RX6, "goesOn", "(I)Z"⟩
abbrev cX6_hour : ByteArray := prog_8_method_31_code
def yX6_hour : MethodName := ⟨RX6, "hour", "()I"⟩
abbrev cX6_pass : ByteArray := prog_8_method_32_code
def yX6_pass : MethodName := ⟨RX6, "pass", "(I)I"⟩
abbrev cX6_time : ByteArray := prog_8_method_33_code
def yX6_time : MethodName := ⟨RX6, "time", "()I"⟩
abbrev cX6_phase : ByteArray := prog_8_method_34_code
def yX6_phase : MethodName := ⟨RX6, "phase", "(I)C"⟩
abbrev cX6_hasNoMove : ByteArray := prog_8_method_35_code
def yX6_hasNoMove : MethodName := ⟨RX6, "hasNoMove", "(I)Z"⟩
abbrev cX6_targetOf : ByteArray := prog_8_method_36_code
def yX6_targetOf : MethodName := ⟨RX6, "targetOf", "(I)I"⟩
abbrev cX6_goneOn : ByteArray := prog_8_method_37_code
def yX6_goneOn : MethodName := ⟨RX6, "goneOn", "(I)I"⟩
abbrev cX6_hoursLeft : ByteArray := prog_8_method_38_code
def yX6_hoursLeft : MethodName := ⟨RX6, "hoursLeft", "(I)I"⟩
abbrev cX6_hoursByPassing : ByteArray := prog_8_method_39_code
def yX6_hoursByPassing : MethodName := ⟨RX6, "hoursByPassing", "(I)I"⟩
abbrev cX6_moves : ByteArray := prog_8_method_40_code
def yX6_moves : MethodName := ⟨RX6, "moves", "()I"⟩
abbrev cX6_shards : ByteArray := prog_8_method_41_code
def yX6_shards : MethodName := ⟨RX6, "shards", "()I"⟩
abbrev cX6_tenants : ByteArray := prog_8_method_42_code
def yX6_tenants : MethodName := ⟨RX6, "tenants", "()I"⟩
abbrev cX6_servedBy : ByteArray := prog_8_method_43_code
def yX6_servedBy : MethodName := ⟨RX6, "servedBy", "(I)I"⟩
abbrev cX6_sizeOf : ByteArray := prog_8_method_44_code
def yX6_sizeOf : MethodName := ⟨RX6, "sizeOf", "(II)I"⟩
abbrev cX6_cannotAsk : ByteArray := prog_8_method_45_code
def yX6_cannotAsk : MethodName := ⟨RX6, "cannotAsk", "(II)Z"⟩
abbrev cX6_used : ByteArray := prog_8_method_46_code
def yX6_used : MethodName := ⟨RX6, "used", "(II)I"⟩
abbrev cX6_usedByLooking : ByteArray := prog_8_method_47_code
def yX6_usedByLooking : MethodName := ⟨RX6, "usedByLooking", "(II)I"⟩
abbrev cX6_isOver : ByteArray := prog_8_method_48_code
def yX6_isOver : MethodName := ⟨RX6, "isOver", "(I)Z"⟩
abbrev cX6_served : ByteArray := prog_8_method_49_code
def yX6_served : MethodName := ⟨RX6, "served", "(I)I"⟩
abbrev cX6_fits : ByteArray := prog_8_method_50_code
def yX6_fits : MethodName := ⟨RX6, "fits", "(II)Z"⟩
abbrev cX6_isSound : ByteArray := prog_8_method_51_code
def yX6_isSound : MethodName := ⟨RX6, "isSound", "()Z"⟩
abbrev cX6_laysPlan : ByteArray := prog_8_method_52_code
def yX6_laysPlan : MethodName := ⟨RX6, "laysPlan", "(I)V"⟩
abbrev cX6_movesOfPlan : ByteArray := prog_8_method_53_code
def yX6_movesOfPlan : MethodName := ⟨RX6, "movesOfPlan", "()I"⟩
abbrev cX6_sound : ByteArray := prog_8_method_54_code
def yX6_sound : MethodName := ⟨RX6, "sound", "()I"⟩
abbrev cX6_fewest : ByteArray := prog_8_method_55_code
def yX6_fewest : MethodName := ⟨RX6, "fewest", "()I"⟩
abbrev cX6_fewestMoves : ByteArray := prog_8_method_56_code
def yX6_fewestMoves : MethodName := ⟨RX6, "fewestMoves", "()I"⟩
abbrev cX6_fewestByTrying : ByteArray := prog_8_method_57_code
def yX6_fewestByTrying : MethodName := ⟨RX6, "fewestByTrying", "()I"⟩
abbrev cX6_planned : ByteArray := prog_8_method_58_code
def yX6_planned : MethodName := ⟨RX6, "planned", "(I)I"⟩
abbrev cX6_soundPlans : ByteArray := prog_8_method_59_code
def yX6_soundPlans : MethodName := ⟨RX6, "soundPlans", "()I"⟩
abbrev cX6_switches : ByteArray := prog_8_method_60_code
def yX6_switches : MethodName := ⟨RX6, "switches", "()I"⟩
abbrev cX6_hoursOver : ByteArray := prog_8_method_61_code
def yX6_hoursOver : MethodName := ⟨RX6, "hoursOver", "()J"⟩
abbrev cX6_shareOf : ByteArray := prog_8_method_62_code
def yX6_shareOf : MethodName := ⟨RX6, "shareOf", "(II)F"⟩
abbrev cX6_meanStorage : ByteArray := prog_8_method_63_code
def yX6_meanStorage : MethodName := ⟨RX6, "meanStorage", "()D"⟩
def RJx145de : String := "java/io/Serializable"
def TJx145de : u_T := fun k => match k with
  | _ => ("", "", "", false)
def tyJx145de : Nat → FieldType := fun k => match k with
  | _ => .int
abbrev wsJx145de0 : List Cond := u_ws RJx145de TJx145de 0
theorem nmJx145de : ∀ a, a < 0 → ∀ b, b < 0 → a ≠ b → (TJx145de a).2.1 ≠ (TJx145de b).2.1 := by decide +kernel
theorem tyJx145de_ok : ∀ k, k < 0 → parseFieldDescriptor (TJx145de k).2.2.1 = some (tyJx145de k) := by decide +kernel
def RJx00060 : String := "java/lang/ArrayIndexOutOfBoundsException"
def TJx00060 : u_T := fun k => match k with
  | 0 => ("java/lang/Throwable", "backtrace", "Ljava/lang/Object;", false)
  | 1 => ("java/lang/Throwable", "detailMessage", "Ljava/lang/String;", false)
  | 2 => ("java/lang/Throwable", "cause", "Ljava/lang/Throwable;", false)
  | 3 => ("java/lang/Throwable", "stackTrace", "[Ljava/lang/StackTraceElement;", false)
  | 4 => ("java/lang/Throwable", "depth", "I", false)
  | _ => ("java/lang/Throwable", "suppressedExceptions", "Ljava/util/List;", false)
def tyJx00060 : Nat → FieldType := fun k => match k with
  | 0 => .object "java/lang/Object"
  | 1 => .object "java/lang/String"
  | 2 => .object "java/lang/Throwable"
  | 3 => .array (.object "java/lang/StackTraceElement")
  | 4 => .int
  | _ => .object "java/util/List"
abbrev wsJx000600 : List Cond := u_ws RJx00060 TJx00060 6
theorem nmJx00060 : ∀ a, a < 6 → ∀ b, b < 6 → a ≠ b → (TJx00060 a).2.1 ≠ (TJx00060 b).2.1 := by decide +kernel
theorem tyJx00060_ok : ∀ k, k < 6 → parseFieldDescriptor (TJx00060 k).2.2.1 = some (tyJx00060 k) := by decide +kernel
abbrev cJx00060_init_a7421 : ByteArray := prog_11_method_2_code
def yJx00060_init_a7421 : MethodName := ⟨RJx00060, "<init>", "(Ljava/lang/String;)V"⟩
def RJ9 : String := "java/lang/Math"
def TJ9 : u_T := fun k => match k with
  | _ => ("", "", "", false)
def tyJ9 : Nat → FieldType := fun k => match k with
  | _ => .int
abbrev wsJ90 : List Cond := u_ws RJ9 TJ9 0
theorem nmJ9 : ∀ a, a < 0 → ∀ b, b < 0 → a ≠ b → (TJ9 a).2.1 ≠ (TJ9 b).2.1 := by decide +kernel
theorem tyJ9_ok : ∀ k, k < 0 → parseFieldDescriptor (TJ9 k).2.2.1 = some (tyJ9 k) := by decide +kernel
abbrev cJ9_floorMod_7cf53 : ByteArray := prog_16_method_50_code
def yJ9_floorMod_7cf53 : MethodName := ⟨RJ9, "floorMod", "(II)I"⟩
abbrev cJ9_min_7cf53 : ByteArray := prog_16_method_69_code
def yJ9_min_7cf53 : MethodName := ⟨RJ9, "min", "(II)I"⟩
def RJ0 : String := "java/lang/String"
def TJ0 : u_T := fun k => match k with
  | 0 => ("java/lang/String", "value", "[B", true)
  | _ => ("java/lang/String", "coder", "B", true)
def tyJ0 : Nat → FieldType := fun k => match k with
  | 0 => .array .byte
  | _ => .byte
abbrev wsJ00 : List Cond := u_ws RJ0 TJ0 2
theorem nmJ0 : ∀ a, a < 2 → ∀ b, b < 2 → a ≠ b → (TJ0 a).2.1 ≠ (TJ0 b).2.1 := by decide +kernel
theorem tyJ0_ok : ∀ k, k < 2 → parseFieldDescriptor (TJ0 k).2.2.1 = some (tyJ0 k) := by decide +kernel
def RL : String := "TenantPlacementLaw"
abbrev cL_addShard : ByteArray := method_3_code
def yL_addShard : MethodName := ⟨RL, "addShard", "(LTenantPlacement;III[J)I"⟩
abbrev cL_setOpen : ByteArray := method_4_code
def yL_setOpen : MethodName := ⟨RL, "setOpen", "(LTenantPlacement;IZ[J)I"⟩
abbrev cL_setLimit : ByteArray := method_5_code
def yL_setLimit : MethodName := ⟨RL, "setLimit", "(LTenantPlacement;III[J)I"⟩
abbrev cL_addTenant : ByteArray := method_6_code
def yL_addTenant : MethodName := ⟨RL, "addTenant", "(LTenantPlacement;IIIII[J)I"⟩
abbrev cL_setSize : ByteArray := method_7_code
def yL_setSize : MethodName := ⟨RL, "setSize", "(LTenantPlacement;III[J)I"⟩
abbrev cL_setWindow : ByteArray := method_8_code
def yL_setWindow : MethodName := ⟨RL, "setWindow", "(LTenantPlacement;III[J)I"⟩
abbrev cL_keepApart : ByteArray := method_9_code
def yL_keepApart : MethodName := ⟨RL, "keepApart", "(LTenantPlacement;II[J)I"⟩
abbrev cL_move : ByteArray := method_10_code
def yL_move : MethodName := ⟨RL, "move", "(LTenantPlacement;II[J)I"⟩
abbrev cL_reason : ByteArray := method_11_code
def yL_reason : MethodName := ⟨RL, "reason", "(LTenantPlacement;II[J)I"⟩
abbrev cL_fail : ByteArray := method_12_code
def yL_fail : MethodName := ⟨RL, "fail", "(LTenantPlacement;I[J)I"⟩
abbrev cL_pass : ByteArray := method_13_code
def yL_pass : MethodName := ⟨RL, "pass", "(LTenantPlacement;I[J)I"⟩
abbrev cL_phase : ByteArray := method_14_code
def yL_phase : MethodName := ⟨RL, "phase", "(LTenantPlacement;I[J)I"⟩
abbrev cL_targetOf : ByteArray := method_15_code
def yL_targetOf : MethodName := ⟨RL, "targetOf", "(LTenantPlacement;I[J)I"⟩
abbrev cL_hoursLeft : ByteArray := method_16_code
def yL_hoursLeft : MethodName := ⟨RL, "hoursLeft", "(LTenantPlacement;I[J)I"⟩
abbrev cL_hoursByPassing : ByteArray := method_17_code
def yL_hoursByPassing : MethodName := ⟨RL, "hoursByPassing", "(LTenantPlacement;I[J)I"⟩
abbrev cL_servedBy : ByteArray := method_18_code
def yL_servedBy : MethodName := ⟨RL, "servedBy", "(LTenantPlacement;I[J)I"⟩
abbrev cL_sizeOf : ByteArray := method_19_code
def yL_sizeOf : MethodName := ⟨RL, "sizeOf", "(LTenantPlacement;II[J)I"⟩
abbrev cL_used : ByteArray := method_20_code
def yL_used : MethodName := ⟨RL, "used", "(LTenantPlacement;II[J)I"⟩
abbrev cL_usedByLooking : ByteArray := method_21_code
def yL_usedByLooking : MethodName := ⟨RL, "usedByLooking", "(LTenantPlacement;II[J)I"⟩
abbrev cL_isOver : ByteArray := method_22_code
def yL_isOver : MethodName := ⟨RL, "isOver", "(LTenantPlacement;I[J)I"⟩
abbrev cL_served : ByteArray := method_23_code
def yL_served : MethodName := ⟨RL, "served", "(LTenantPlacement;I[J)I"⟩
abbrev cL_fewestMoves : ByteArray := method_24_code
def yL_fewestMoves : MethodName := ⟨RL, "fewestMoves", "(LTenantPlacement;[J)I"⟩
abbrev cL_fewestByTrying : ByteArray := method_25_code
def yL_fewestByTrying : MethodName := ⟨RL, "fewestByTrying", "(LTenantPlacement;[J)I"⟩
abbrev cL_planned : ByteArray := method_26_code
def yL_planned : MethodName := ⟨RL, "planned", "(LTenantPlacement;I[J)I"⟩
abbrev cL_shareOf : ByteArray := method_27_code
def yL_shareOf : MethodName := ⟨RL, "shareOf", "(LTenantPlacement;II[D)I"⟩
abbrev cL_meanStorage : ByteArray := method_28_code
def yL_meanStorage : MethodName := ⟨RL, "meanStorage", "(LTenantPlacement;[D)I"⟩
abbrev cL_law : ByteArray := code
def yL_law : MethodName := ⟨RL, "law", "([I)Z"⟩
theorem inX0 : ∀ w ∈ wsX00, w ∈ lw_tbl := by decide +kernel
theorem inX1 : ∀ w ∈ wsX10, w ∈ lw_tbl := by decide +kernel
theorem inX2 : ∀ w ∈ wsX20, w ∈ lw_tbl := by decide +kernel
theorem inX3 : ∀ w ∈ wsX30, w ∈ lw_tbl := by decide +kernel
theorem inX4 : ∀ w ∈ wsX40, w ∈ lw_tbl := by decide +kernel
theorem inX5 : ∀ w ∈ wsX50, w ∈ lw_tbl := by decide +kernel
theorem inX6 : ∀ w ∈ wsX60, w ∈ lw_tbl := by decide +kernel
theorem inJx145de : ∀ w ∈ wsJx145de0, w ∈ lw_tbl := by decide +kernel
theorem inJx00060 : ∀ w ∈ wsJx000600, w ∈ lw_tbl := by decide +kernel
theorem inJ9 : ∀ w ∈ wsJ90, w ∈ lw_tbl := by decide +kernel
theorem inJ0 : ∀ w ∈ wsJ00, w ∈ lw_tbl := by decide +kernel
abbrev vwCl : List vw_C := [(RJ0, TJ0, 2), (RJx00060, TJx00060, 6), (RX0, TX0, 3), (RX1, TX1, 4), (RX2, TX2, 2), (RX3, TX3, 5), (RX4, TX4, 8), (RX5, TX5, 8), (RX6, TX6, 23)]
theorem dJ9_floorMod_7cf53_0 : decode cJ9_floorMod_7cf53 0 = .ok (.iload_n 0, 1) := by decide +kernel
theorem dJ9_floorMod_7cf53_1 : decode cJ9_floorMod_7cf53 1 = .ok (.iload_n 1, 1) := by decide +kernel
theorem dJ9_floorMod_7cf53_2 : decode cJ9_floorMod_7cf53 2 = .ok (.irem, 1) := by decide +kernel
theorem dJ9_floorMod_7cf53_3 : decode cJ9_floorMod_7cf53 3 = .ok (.istore_n 2, 1) := by decide +kernel
theorem dJ9_floorMod_7cf53_4 : decode cJ9_floorMod_7cf53 4 = .ok (.iload_n 0, 1) := by decide +kernel
theorem dJ9_floorMod_7cf53_5 : decode cJ9_floorMod_7cf53 5 = .ok (.iload_n 1, 1) := by decide +kernel
theorem dJ9_floorMod_7cf53_6 : decode cJ9_floorMod_7cf53 6 = .ok (.ixor, 1) := by decide +kernel
theorem dJ9_floorMod_7cf53_7 : decode cJ9_floorMod_7cf53 7 = .ok (.ifCond .ge 11, 3) := by decide +kernel
theorem dJ9_floorMod_7cf53_10 : decode cJ9_floorMod_7cf53 10 = .ok (.iload_n 2, 1) := by decide +kernel
theorem dJ9_floorMod_7cf53_11 : decode cJ9_floorMod_7cf53 11 = .ok (.ifCond .eq 7, 3) := by decide +kernel
theorem dJ9_floorMod_7cf53_14 : decode cJ9_floorMod_7cf53 14 = .ok (.iload_n 2, 1) := by decide +kernel
theorem dJ9_floorMod_7cf53_15 : decode cJ9_floorMod_7cf53 15 = .ok (.iload_n 1, 1) := by decide +kernel
theorem dJ9_floorMod_7cf53_16 : decode cJ9_floorMod_7cf53 16 = .ok (.iadd, 1) := by decide +kernel
theorem dJ9_floorMod_7cf53_17 : decode cJ9_floorMod_7cf53 17 = .ok (.ireturn, 1) := by decide +kernel
theorem dJ9_floorMod_7cf53_18 : decode cJ9_floorMod_7cf53 18 = .ok (.iload_n 2, 1) := by decide +kernel
theorem dJ9_floorMod_7cf53_19 : decode cJ9_floorMod_7cf53 19 = .ok (.ireturn, 1) := by decide +kernel
theorem dJ9_min_7cf53_0 : decode cJ9_min_7cf53 0 = .ok (.iload_n 0, 1) := by decide +kernel
theorem dJ9_min_7cf53_1 : decode cJ9_min_7cf53 1 = .ok (.iload_n 1, 1) := by decide +kernel
theorem dJ9_min_7cf53_2 : decode cJ9_min_7cf53 2 = .ok (.if_icmp .gt 7, 3) := by decide +kernel
theorem dJ9_min_7cf53_5 : decode cJ9_min_7cf53 5 = .ok (.iload_n 0, 1) := by decide +kernel
theorem dJ9_min_7cf53_6 : decode cJ9_min_7cf53 6 = .ok (.goto 4, 3) := by decide +kernel
theorem dJ9_min_7cf53_9 : decode cJ9_min_7cf53 9 = .ok (.iload_n 1, 1) := by decide +kernel
theorem dJ9_min_7cf53_10 : decode cJ9_min_7cf53 10 = .ok (.ireturn, 1) := by decide +kernel
theorem dX0_init_0 : decode cX0_init 0 = .ok (.aload_n 0, 1) := by decide +kernel
theorem dX0_init_1 : decode cX0_init 1 = .ok (.invokespecial 3, 3) := by decide +kernel
theorem dX0_init_4 : decode cX0_init 4 = .ok (.aload_n 0, 1) := by decide +kernel
theorem dX0_init_5 : decode cX0_init 5 = .ok (.iload_n 1, 1) := by decide +kernel
theorem dX0_init_6 : decode cX0_init 6 = .ok (.putfield 9, 3) := by decide +kernel
theorem dX0_init_9 : decode cX0_init 9 = .ok (.aload_n 0, 1) := by decide +kernel
theorem dX0_init_10 : decode cX0_init 10 = .ok (.iload_n 2, 1) := by decide +kernel
theorem dX0_init_11 : decode cX0_init 11 = .ok (.putfield 15, 3) := by decide +kernel
theorem dX0_init_14 : decode cX0_init 14 = .ok (.aload_n 0, 1) := by decide +kernel
theorem dX0_init_15 : decode cX0_init 15 = .ok (.iload_n 3, 1) := by decide +kernel
theorem dX0_init_16 : decode cX0_init 16 = .ok (.putfield 18, 3) := by decide +kernel
theorem dX0_init_19 : decode cX0_init 19 = .ok (.return_, 1) := by decide +kernel
theorem dX0_of_0 : decode cX0_of 0 = .ok (.iload_n 1, 1) := by decide +kernel
theorem dX0_of_1 : decode cX0_of 1 = .ok (.tableswitch 42 0 2 #[27, 32, 37], 27) := by decide +kernel
theorem dX0_of_28 : decode cX0_of 28 = .ok (.aload_n 0, 1) := by decide +kernel
theorem dX0_of_29 : decode cX0_of 29 = .ok (.getfield 9, 3) := by decide +kernel
theorem dX0_of_32 : decode cX0_of 32 = .ok (.ireturn, 1) := by decide +kernel
theorem dX0_of_33 : decode cX0_of 33 = .ok (.aload_n 0, 1) := by decide +kernel
theorem dX0_of_34 : decode cX0_of 34 = .ok (.getfield 15, 3) := by decide +kernel
theorem dX0_of_37 : decode cX0_of 37 = .ok (.ireturn, 1) := by decide +kernel
theorem dX0_of_38 : decode cX0_of 38 = .ok (.aload_n 0, 1) := by decide +kernel
theorem dX0_of_39 : decode cX0_of 39 = .ok (.getfield 18, 3) := by decide +kernel
theorem dX0_of_42 : decode cX0_of 42 = .ok (.ireturn, 1) := by decide +kernel
theorem dX0_of_43 : decode cX0_of 43 = .ok (.iconst 0, 1) := by decide +kernel
theorem dX0_of_44 : decode cX0_of 44 = .ok (.ireturn, 1) := by decide +kernel
theorem dX0_put_0 : decode cX0_put 0 = .ok (.iload_n 1, 1) := by decide +kernel
theorem dX0_put_1 : decode cX0_put 1 = .ok (.tableswitch 51 0 2 #[27, 35, 43], 27) := by decide +kernel
theorem dX0_put_28 : decode cX0_put 28 = .ok (.aload_n 0, 1) := by decide +kernel
theorem dX0_put_29 : decode cX0_put 29 = .ok (.iload_n 2, 1) := by decide +kernel
theorem dX0_put_30 : decode cX0_put 30 = .ok (.putfield 9, 3) := by decide +kernel
theorem dX0_put_33 : decode cX0_put 33 = .ok (.goto 19, 3) := by decide +kernel
theorem dX0_put_36 : decode cX0_put 36 = .ok (.aload_n 0, 1) := by decide +kernel
theorem dX0_put_37 : decode cX0_put 37 = .ok (.iload_n 2, 1) := by decide +kernel
theorem dX0_put_38 : decode cX0_put 38 = .ok (.putfield 15, 3) := by decide +kernel
theorem dX0_put_41 : decode cX0_put 41 = .ok (.goto 11, 3) := by decide +kernel
theorem dX0_put_44 : decode cX0_put 44 = .ok (.aload_n 0, 1) := by decide +kernel
theorem dX0_put_45 : decode cX0_put 45 = .ok (.iload_n 2, 1) := by decide +kernel
theorem dX0_put_46 : decode cX0_put 46 = .ok (.putfield 18, 3) := by decide +kernel
theorem dX0_put_49 : decode cX0_put 49 = .ok (.goto 3, 3) := by decide +kernel
theorem dX0_put_52 : decode cX0_put 52 = .ok (.return_, 1) := by decide +kernel
theorem dX0_add_0 : decode cX0_add 0 = .ok (.aload_n 0, 1) := by decide +kernel
theorem dX0_add_1 : decode cX0_add 1 = .ok (.dup, 1) := by decide +kernel
theorem dX0_add_2 : decode cX0_add 2 = .ok (.getfield 9, 3) := by decide +kernel
theorem dX0_add_5 : decode cX0_add 5 = .ok (.aload_n 1, 1) := by decide +kernel
theorem dX0_add_6 : decode cX0_add 6 = .ok (.getfield 9, 3) := by decide +kernel
theorem dX0_add_9 : decode cX0_add 9 = .ok (.iadd, 1) := by decide +kernel
theorem dX0_add_10 : decode cX0_add 10 = .ok (.putfield 9, 3) := by decide +kernel
theorem dX0_add_13 : decode cX0_add 13 = .ok (.aload_n 0, 1) := by decide +kernel
theorem dX0_add_14 : decode cX0_add 14 = .ok (.dup, 1) := by decide +kernel
theorem dX0_add_15 : decode cX0_add 15 = .ok (.getfield 15, 3) := by decide +kernel
theorem dX0_add_18 : decode cX0_add 18 = .ok (.aload_n 1, 1) := by decide +kernel
theorem dX0_add_19 : decode cX0_add 19 = .ok (.getfield 15, 3) := by decide +kernel
theorem dX0_add_22 : decode cX0_add 22 = .ok (.iadd, 1) := by decide +kernel
theorem dX0_add_23 : decode cX0_add 23 = .ok (.putfield 15, 3) := by decide +kernel
theorem dX0_add_26 : decode cX0_add 26 = .ok (.aload_n 0, 1) := by decide +kernel
theorem dX0_add_27 : decode cX0_add 27 = .ok (.dup, 1) := by decide +kernel
theorem dX0_add_28 : decode cX0_add 28 = .ok (.getfield 18, 3) := by decide +kernel
theorem dX0_add_31 : decode cX0_add 31 = .ok (.aload_n 1, 1) := by decide +kernel
theorem dX0_add_32 : decode cX0_add 32 = .ok (.getfield 18, 3) := by decide +kernel
theorem dX0_add_35 : decode cX0_add 35 = .ok (.iadd, 1) := by decide +kernel
theorem dX0_add_36 : decode cX0_add 36 = .ok (.putfield 18, 3) := by decide +kernel
theorem dX0_add_39 : decode cX0_add 39 = .ok (.return_, 1) := by decide +kernel
theorem dX0_subtract_0 : decode cX0_subtract 0 = .ok (.aload_n 0, 1) := by decide +kernel
theorem dX0_subtract_1 : decode cX0_subtract 1 = .ok (.dup, 1) := by decide +kernel
theorem dX0_subtract_2 : decode cX0_subtract 2 = .ok (.getfield 9, 3) := by decide +kernel
theorem dX0_subtract_5 : decode cX0_subtract 5 = .ok (.aload_n 1, 1) := by decide +kernel
theorem dX0_subtract_6 : decode cX0_subtract 6 = .ok (.getfield 9, 3) := by decide +kernel
theorem dX0_subtract_9 : decode cX0_subtract 9 = .ok (.isub, 1) := by decide +kernel
theorem dX0_subtract_10 : decode cX0_subtract 10 = .ok (.putfield 9, 3) := by decide +kernel
theorem dX0_subtract_13 : decode cX0_subtract 13 = .ok (.aload_n 0, 1) := by decide +kernel
theorem dX0_subtract_14 : decode cX0_subtract 14 = .ok (.dup, 1) := by decide +kernel
theorem dX0_subtract_15 : decode cX0_subtract 15 = .ok (.getfield 15, 3) := by decide +kernel
theorem dX0_subtract_18 : decode cX0_subtract 18 = .ok (.aload_n 1, 1) := by decide +kernel
theorem dX0_subtract_19 : decode cX0_subtract 19 = .ok (.getfield 15, 3) := by decide +kernel
theorem dX0_subtract_22 : decode cX0_subtract 22 = .ok (.isub, 1) := by decide +kernel
theorem dX0_subtract_23 : decode cX0_subtract 23 = .ok (.putfield 15, 3) := by decide +kernel
theorem dX0_subtract_26 : decode cX0_subtract 26 = .ok (.aload_n 0, 1) := by decide +kernel
theorem dX0_subtract_27 : decode cX0_subtract 27 = .ok (.dup, 1) := by decide +kernel
theorem dX0_subtract_28 : decode cX0_subtract 28 = .ok (.getfield 18, 3) := by decide +kernel
theorem dX0_subtract_31 : decode cX0_subtract 31 = .ok (.aload_n 1, 1) := by decide +kernel
theorem dX0_subtract_32 : decode cX0_subtract 32 = .ok (.getfield 18, 3) := by decide +kernel
theorem dX0_subtract_35 : decode cX0_subtract 35 = .ok (.isub, 1) := by decide +kernel
theorem dX0_subtract_36 : decode cX0_subtract 36 = .ok (.putfield 18, 3) := by decide +kernel
theorem dX0_subtract_39 : decode cX0_subtract 39 = .ok (.return_, 1) := by decide +kernel
theorem dX0_clear_0 : decode cX0_clear 0 = .ok (.aload_n 0, 1) := by decide +kernel
theorem dX0_clear_1 : decode cX0_clear 1 = .ok (.iconst 0, 1) := by decide +kernel
theorem dX0_clear_2 : decode cX0_clear 2 = .ok (.putfield 9, 3) := by decide +kernel
theorem dX0_clear_5 : decode cX0_clear 5 = .ok (.aload_n 0, 1) := by decide +kernel
theorem dX0_clear_6 : decode cX0_clear 6 = .ok (.iconst 0, 1) := by decide +kernel
theorem dX0_clear_7 : decode cX0_clear 7 = .ok (.putfield 15, 3) := by decide +kernel
theorem dX0_clear_10 : decode cX0_clear 10 = .ok (.aload_n 0, 1) := by decide +kernel
theorem dX0_clear_11 : decode cX0_clear 11 = .ok (.iconst 0, 1) := by decide +kernel
theorem dX0_clear_12 : decode cX0_clear 12 = .ok (.putfield 18, 3) := by decide +kernel
theorem dX0_clear_15 : decode cX0_clear 15 = .ok (.return_, 1) := by decide +kernel
theorem dX1_init_0 : decode cX1_init 0 = .ok (.aload_n 0, 1) := by decide +kernel
theorem dX1_init_1 : decode cX1_init 1 = .ok (.invokespecial 3, 3) := by decide +kernel
theorem dX1_init_4 : decode cX1_init 4 = .ok (.aload_n 0, 1) := by decide +kernel
theorem dX1_init_5 : decode cX1_init 5 = .ok (.bipush 45, 2) := by decide +kernel
theorem dX1_init_7 : decode cX1_init 7 = .ok (.putfield 9, 3) := by decide +kernel
theorem dX1_init_10 : decode cX1_init 10 = .ok (.return_, 1) := by decide +kernel
theorem dX1_isUnderWay_0 : decode cX1_isUnderWay 0 = .ok (.aload_n 0, 1) := by decide +kernel
theorem dX1_isUnderWay_1 : decode cX1_isUnderWay 1 = .ok (.getfield 9, 3) := by decide +kernel
theorem dX1_isUnderWay_4 : decode cX1_isUnderWay 4 = .ok (.bipush 45, 2) := by decide +kernel
theorem dX1_isUnderWay_6 : decode cX1_isUnderWay 6 = .ok (.if_icmp .eq 7, 3) := by decide +kernel
theorem dX1_isUnderWay_9 : decode cX1_isUnderWay 9 = .ok (.iconst 1, 1) := by decide +kernel
theorem dX1_isUnderWay_10 : decode cX1_isUnderWay 10 = .ok (.goto 4, 3) := by decide +kernel
theorem dX1_isUnderWay_13 : decode cX1_isUnderWay 13 = .ok (.iconst 0, 1) := by decide +kernel
theorem dX1_isUnderWay_14 : decode cX1_isUnderWay 14 = .ok (.ireturn, 1) := by decide +kernel
theorem dX1_isBeforeCutting_0 : decode cX1_isBeforeCutting 0 = .ok (.aload_n 0, 1) := by decide +kernel
theorem dX1_isBeforeCutting_1 : decode cX1_isBeforeCutting 1 = .ok (.getfield 9, 3) := by decide +kernel
theorem dX1_isBeforeCutting_4 : decode cX1_isBeforeCutting 4 = .ok (.bipush 99, 2) := by decide +kernel
theorem dX1_isBeforeCutting_6 : decode cX1_isBeforeCutting 6 = .ok (.if_icmp .eq 12, 3) := by decide +kernel
theorem dX1_isBeforeCutting_9 : decode cX1_isBeforeCutting 9 = .ok (.aload_n 0, 1) := by decide +kernel
theorem dX1_isBeforeCutting_10 : decode cX1_isBeforeCutting 10 = .ok (.getfield 9, 3) := by decide +kernel
theorem dX1_isBeforeCutting_13 : decode cX1_isBeforeCutting 13 = .ok (.bipush 102, 2) := by decide +kernel
theorem dX1_isBeforeCutting_15 : decode cX1_isBeforeCutting 15 = .ok (.if_icmp .ne 7, 3) := by decide +kernel
theorem dX1_isBeforeCutting_18 : decode cX1_isBeforeCutting 18 = .ok (.iconst 1, 1) := by decide +kernel
theorem dX1_isBeforeCutting_19 : decode cX1_isBeforeCutting 19 = .ok (.goto 4, 3) := by decide +kernel
theorem dX1_isBeforeCutting_22 : decode cX1_isBeforeCutting 22 = .ok (.iconst 0, 1) := by decide +kernel
theorem dX1_isBeforeCutting_23 : decode cX1_isBeforeCutting 23 = .ok (.ireturn, 1) := by decide +kernel
theorem dX1_isCleaning_0 : decode cX1_isCleaning 0 = .ok (.aload_n 0, 1) := by decide +kernel
theorem dX1_isCleaning_1 : decode cX1_isCleaning 1 = .ok (.getfield 9, 3) := by decide +kernel
theorem dX1_isCleaning_4 : decode cX1_isCleaning 4 = .ok (.bipush 100, 2) := by decide +kernel
theorem dX1_isCleaning_6 : decode cX1_isCleaning 6 = .ok (.if_icmp .ne 15, 3) := by decide +kernel
theorem dX1_isCleaning_9 : decode cX1_isCleaning 9 = .ok (.aload_n 0, 1) := by decide +kernel
theorem dX1_isCleaning_10 : decode cX1_isCleaning 10 = .ok (.getfield 15, 3) := by decide +kernel
theorem dX1_isCleaning_13 : decode cX1_isCleaning 13 = .ok (.iload_n 1, 1) := by decide +kernel
theorem dX1_isCleaning_14 : decode cX1_isCleaning 14 = .ok (.if_icmp .ne 7, 3) := by decide +kernel
theorem dX1_isCleaning_17 : decode cX1_isCleaning 17 = .ok (.iconst 1, 1) := by decide +kernel
theorem dX1_isCleaning_18 : decode cX1_isCleaning 18 = .ok (.goto 4, 3) := by decide +kernel
theorem dX1_isCleaning_21 : decode cX1_isCleaning 21 = .ok (.iconst 0, 1) := by decide +kernel
theorem dX1_isCleaning_22 : decode cX1_isCleaning 22 = .ok (.ireturn, 1) := by decide +kernel
theorem dX1_begin_0 : decode cX1_begin 0 = .ok (.aload_n 0, 1) := by decide +kernel
theorem dX1_begin_1 : decode cX1_begin 1 = .ok (.bipush 99, 2) := by decide +kernel
theorem dX1_begin_3 : decode cX1_begin 3 = .ok (.putfield 9, 3) := by decide +kernel
theorem dX1_begin_6 : decode cX1_begin 6 = .ok (.aload_n 0, 1) := by decide +kernel
theorem dX1_begin_7 : decode cX1_begin 7 = .ok (.iload_n 1, 1) := by decide +kernel
theorem dX1_begin_8 : decode cX1_begin 8 = .ok (.putfield 15, 3) := by decide +kernel
theorem dX1_begin_11 : decode cX1_begin 11 = .ok (.aload_n 0, 1) := by decide +kernel
theorem dX1_begin_12 : decode cX1_begin 12 = .ok (.iload_n 2, 1) := by decide +kernel
theorem dX1_begin_13 : decode cX1_begin 13 = .ok (.putfield 19, 3) := by decide +kernel
theorem dX1_begin_16 : decode cX1_begin 16 = .ok (.aload_n 0, 1) := by decide +kernel
theorem dX1_begin_17 : decode cX1_begin 17 = .ok (.iload_n 3, 1) := by decide +kernel
theorem dX1_begin_18 : decode cX1_begin 18 = .ok (.putfield 22, 3) := by decide +kernel
theorem dX1_begin_21 : decode cX1_begin 21 = .ok (.return_, 1) := by decide +kernel
theorem dX1_end_0 : decode cX1_end 0 = .ok (.aload_n 0, 1) := by decide +kernel
theorem dX1_end_1 : decode cX1_end 1 = .ok (.bipush 45, 2) := by decide +kernel
theorem dX1_end_3 : decode cX1_end 3 = .ok (.putfield 9, 3) := by decide +kernel
theorem dX1_end_6 : decode cX1_end 6 = .ok (.return_, 1) := by decide +kernel
theorem dX1_goOn_0 : decode cX1_goOn 0 = .ok (.aload_n 0, 1) := by decide +kernel
theorem dX1_goOn_1 : decode cX1_goOn 1 = .ok (.getfield 9, 3) := by decide +kernel
theorem dX1_goOn_4 : decode cX1_goOn 4 = .ok (.bipush 102, 2) := by decide +kernel
theorem dX1_goOn_6 : decode cX1_goOn 6 = .ok (.if_icmp .ne 19, 3) := by decide +kernel
theorem dX1_goOn_9 : decode cX1_goOn 9 = .ok (.iload_n 1, 1) := by decide +kernel
theorem dX1_goOn_10 : decode cX1_goOn 10 = .ok (.ifCond .eq 13, 3) := by decide +kernel
theorem dX1_goOn_13 : decode cX1_goOn 13 = .ok (.aload_n 0, 1) := by decide +kernel
theorem dX1_goOn_14 : decode cX1_goOn 14 = .ok (.bipush 100, 2) := by decide +kernel
theorem dX1_goOn_16 : decode cX1_goOn 16 = .ok (.putfield 9, 3) := by decide +kernel
theorem dX1_goOn_19 : decode cX1_goOn 19 = .ok (.aload_n 0, 1) := by decide +kernel
theorem dX1_goOn_20 : decode cX1_goOn 20 = .ok (.invokevirtual 25, 3) := by decide +kernel
theorem dX1_goOn_23 : decode cX1_goOn 23 = .ok (.iload_n 1, 1) := by decide +kernel
theorem dX1_goOn_24 : decode cX1_goOn 24 = .ok (.ireturn, 1) := by decide +kernel
theorem dX1_goOn_25 : decode cX1_goOn 25 = .ok (.aload_n 0, 1) := by decide +kernel
theorem dX1_goOn_26 : decode cX1_goOn 26 = .ok (.dup, 1) := by decide +kernel
theorem dX1_goOn_27 : decode cX1_goOn 27 = .ok (.getfield 22, 3) := by decide +kernel
theorem dX1_goOn_30 : decode cX1_goOn 30 = .ok (.iconst 1, 1) := by decide +kernel
theorem dX1_goOn_31 : decode cX1_goOn 31 = .ok (.isub, 1) := by decide +kernel
theorem dX1_goOn_32 : decode cX1_goOn 32 = .ok (.putfield 22, 3) := by decide +kernel
theorem dX1_goOn_35 : decode cX1_goOn 35 = .ok (.aload_n 0, 1) := by decide +kernel
theorem dX1_goOn_36 : decode cX1_goOn 36 = .ok (.getfield 22, 3) := by decide +kernel
theorem dX1_goOn_39 : decode cX1_goOn 39 = .ok (.ifCond .gt 23, 3) := by decide +kernel
theorem dX1_goOn_42 : decode cX1_goOn 42 = .ok (.aload_n 0, 1) := by decide +kernel
theorem dX1_goOn_43 : decode cX1_goOn 43 = .ok (.aload_n 0, 1) := by decide +kernel
theorem dX1_goOn_44 : decode cX1_goOn 44 = .ok (.getfield 9, 3) := by decide +kernel
theorem dX1_goOn_47 : decode cX1_goOn 47 = .ok (.bipush 99, 2) := by decide +kernel
theorem dX1_goOn_49 : decode cX1_goOn 49 = .ok (.if_icmp .ne 8, 3) := by decide +kernel
theorem dX1_goOn_52 : decode cX1_goOn 52 = .ok (.bipush 102, 2) := by decide +kernel
theorem dX1_goOn_54 : decode cX1_goOn 54 = .ok (.goto 5, 3) := by decide +kernel
theorem dX1_goOn_57 : decode cX1_goOn 57 = .ok (.bipush 45, 2) := by decide +kernel
theorem dX1_goOn_59 : decode cX1_goOn 59 = .ok (.putfield 9, 3) := by decide +kernel
theorem dX1_goOn_62 : decode cX1_goOn 62 = .ok (.iconst 0, 1) := by decide +kernel
theorem dX1_goOn_63 : decode cX1_goOn 63 = .ok (.ireturn, 1) := by decide +kernel
theorem dX1_cleanAnew_0 : decode cX1_cleanAnew 0 = .ok (.aload_n 0, 1) := by decide +kernel
theorem dX1_cleanAnew_1 : decode cX1_cleanAnew 1 = .ok (.iconst 2, 1) := by decide +kernel
theorem dX1_cleanAnew_2 : decode cX1_cleanAnew 2 = .ok (.putfield 22, 3) := by decide +kernel
theorem dX1_cleanAnew_5 : decode cX1_cleanAnew 5 = .ok (.return_, 1) := by decide +kernel
theorem dX1_turnRound_0 : decode cX1_turnRound 0 = .ok (.aload_n 0, 1) := by decide +kernel
theorem dX1_turnRound_1 : decode cX1_turnRound 1 = .ok (.getfield 19, 3) := by decide +kernel
theorem dX1_turnRound_4 : decode cX1_turnRound 4 = .ok (.istore_n 1, 1) := by decide +kernel
theorem dX1_turnRound_5 : decode cX1_turnRound 5 = .ok (.aload_n 0, 1) := by decide +kernel
theorem dX1_turnRound_6 : decode cX1_turnRound 6 = .ok (.aload_n 0, 1) := by decide +kernel
theorem dX1_turnRound_7 : decode cX1_turnRound 7 = .ok (.getfield 15, 3) := by decide +kernel
theorem dX1_turnRound_10 : decode cX1_turnRound 10 = .ok (.putfield 19, 3) := by decide +kernel
theorem dX1_turnRound_13 : decode cX1_turnRound 13 = .ok (.aload_n 0, 1) := by decide +kernel
theorem dX1_turnRound_14 : decode cX1_turnRound 14 = .ok (.iload_n 1, 1) := by decide +kernel
theorem dX1_turnRound_15 : decode cX1_turnRound 15 = .ok (.putfield 15, 3) := by decide +kernel
theorem dX1_turnRound_18 : decode cX1_turnRound 18 = .ok (.aload_n 0, 1) := by decide +kernel
theorem dX1_turnRound_19 : decode cX1_turnRound 19 = .ok (.invokevirtual 25, 3) := by decide +kernel
theorem dX1_turnRound_22 : decode cX1_turnRound 22 = .ok (.return_, 1) := by decide +kernel
theorem dX1_copyFrom_0 : decode cX1_copyFrom 0 = .ok (.aload_n 0, 1) := by decide +kernel
theorem dX1_copyFrom_1 : decode cX1_copyFrom 1 = .ok (.aload_n 1, 1) := by decide +kernel
theorem dX1_copyFrom_2 : decode cX1_copyFrom 2 = .ok (.getfield 9, 3) := by decide +kernel
theorem dX1_copyFrom_5 : decode cX1_copyFrom 5 = .ok (.putfield 9, 3) := by decide +kernel
theorem dX1_copyFrom_8 : decode cX1_copyFrom 8 = .ok (.aload_n 0, 1) := by decide +kernel
theorem dX1_copyFrom_9 : decode cX1_copyFrom 9 = .ok (.aload_n 1, 1) := by decide +kernel
theorem dX1_copyFrom_10 : decode cX1_copyFrom 10 = .ok (.getfield 15, 3) := by decide +kernel
theorem dX1_copyFrom_13 : decode cX1_copyFrom 13 = .ok (.putfield 15, 3) := by decide +kernel
theorem dX1_copyFrom_16 : decode cX1_copyFrom 16 = .ok (.aload_n 0, 1) := by decide +kernel
theorem dX1_copyFrom_17 : decode cX1_copyFrom 17 = .ok (.aload_n 1, 1) := by decide +kernel
theorem dX1_copyFrom_18 : decode cX1_copyFrom 18 = .ok (.getfield 19, 3) := by decide +kernel
theorem dX1_copyFrom_21 : decode cX1_copyFrom 21 = .ok (.putfield 19, 3) := by decide +kernel
theorem dX1_copyFrom_24 : decode cX1_copyFrom 24 = .ok (.aload_n 0, 1) := by decide +kernel
theorem dX1_copyFrom_25 : decode cX1_copyFrom 25 = .ok (.aload_n 1, 1) := by decide +kernel
theorem dX1_copyFrom_26 : decode cX1_copyFrom 26 = .ok (.getfield 22, 3) := by decide +kernel
theorem dX1_copyFrom_29 : decode cX1_copyFrom 29 = .ok (.putfield 22, 3) := by decide +kernel
theorem dX1_copyFrom_32 : decode cX1_copyFrom 32 = .ok (.return_, 1) := by decide +kernel
theorem dX2_init_0 : decode cX2_init 0 = .ok (.aload_n 0, 1) := by decide +kernel
theorem dX2_init_1 : decode cX2_init 1 = .ok (.invokespecial 3, 3) := by decide +kernel
theorem dX2_init_4 : decode cX2_init 4 = .ok (.return_, 1) := by decide +kernel
theorem dX2_tryAll_0 : decode cX2_tryAll 0 = .ok (.aload_n 0, 1) := by decide +kernel
theorem dX2_tryAll_1 : decode cX2_tryAll 1 = .ok (.iconst 0, 1) := by decide +kernel
theorem dX2_tryAll_2 : decode cX2_tryAll 2 = .ok (.putfield 9, 3) := by decide +kernel
theorem dX2_tryAll_5 : decode cX2_tryAll 5 = .ok (.aload_n 0, 1) := by decide +kernel
theorem dX2_tryAll_6 : decode cX2_tryAll 6 = .ok (.bipush 7, 2) := by decide +kernel
theorem dX2_tryAll_8 : decode cX2_tryAll 8 = .ok (.putfield 15, 3) := by decide +kernel
theorem dX2_tryAll_11 : decode cX2_tryAll 11 = .ok (.aload_n 1, 1) := by decide +kernel
theorem dX2_tryAll_12 : decode cX2_tryAll 12 = .ok (.invokestatic 18, 3) := by decide +kernel
theorem dX2_tryAll_15 : decode cX2_tryAll 15 = .ok (.aload_n 0, 1) := by decide +kernel
theorem dX2_tryAll_16 : decode cX2_tryAll 16 = .ok (.aload_n 1, 1) := by decide +kernel
theorem dX2_tryAll_17 : decode cX2_tryAll 17 = .ok (.aload_n 2, 1) := by decide +kernel
theorem dX2_tryAll_18 : decode cX2_tryAll 18 = .ok (.iconst 0, 1) := by decide +kernel
theorem dX2_tryAll_19 : decode cX2_tryAll 19 = .ok (.iconst 0, 1) := by decide +kernel
theorem dX2_tryAll_20 : decode cX2_tryAll 20 = .ok (.invokestatic 22, 3) := by decide +kernel
theorem dX2_tryAll_23 : decode cX2_tryAll 23 = .ok (.return_, 1) := by decide +kernel
theorem dX2_findBest_0 : decode cX2_findBest 0 = .ok (.iconst 0, 1) := by decide +kernel
theorem dX2_findBest_1 : decode cX2_findBest 1 = .ok (.istore_n 3, 1) := by decide +kernel
theorem dX2_findBest_2 : decode cX2_findBest 2 = .ok (.iload_n 3, 1) := by decide +kernel
theorem dX2_findBest_3 : decode cX2_findBest 3 = .ok (.aload_n 2, 1) := by decide +kernel
theorem dX2_findBest_4 : decode cX2_findBest 4 = .ok (.arraylength, 1) := by decide +kernel
theorem dX2_findBest_5 : decode cX2_findBest 5 = .ok (.if_icmp .gt 25, 3) := by decide +kernel
theorem dX2_findBest_8 : decode cX2_findBest 8 = .ok (.aload_n 1, 1) := by decide +kernel
theorem dX2_findBest_9 : decode cX2_findBest 9 = .ok (.invokestatic 18, 3) := by decide +kernel
theorem dX2_findBest_12 : decode cX2_findBest 12 = .ok (.aload_n 1, 1) := by decide +kernel
theorem dX2_findBest_13 : decode cX2_findBest 13 = .ok (.aload_n 2, 1) := by decide +kernel
theorem dX2_findBest_14 : decode cX2_findBest 14 = .ok (.iconst 0, 1) := by decide +kernel
theorem dX2_findBest_15 : decode cX2_findBest 15 = .ok (.iload_n 3, 1) := by decide +kernel
theorem dX2_findBest_16 : decode cX2_findBest 16 = .ok (.invokestatic 26, 3) := by decide +kernel
theorem dX2_findBest_19 : decode cX2_findBest 19 = .ok (.ifCond .eq 5, 3) := by decide +kernel
theorem dX2_findBest_22 : decode cX2_findBest 22 = .ok (.iload_n 3, 1) := by decide +kernel
theorem dX2_findBest_23 : decode cX2_findBest 23 = .ok (.ireturn, 1) := by decide +kernel
theorem dX2_findBest_24 : decode cX2_findBest 24 = .ok (.iinc 3 1, 3) := by decide +kernel
theorem dX2_findBest_27 : decode cX2_findBest 27 = .ok (.goto (-25), 3) := by decide +kernel
theorem dX2_findBest_30 : decode cX2_findBest 30 = .ok (.bipush 7, 2) := by decide +kernel
theorem dX2_findBest_32 : decode cX2_findBest 32 = .ok (.ireturn, 1) := by decide +kernel
theorem dX2_clearTrials_0 : decode cX2_clearTrials 0 = .ok (.aload_n 0, 1) := by decide +kernel
theorem dX2_clearTrials_1 : decode cX2_clearTrials 1 = .ok (.astore_n 1, 1) := by decide +kernel
theorem dX2_clearTrials_2 : decode cX2_clearTrials 2 = .ok (.aload_n 1, 1) := by decide +kernel
theorem dX2_clearTrials_3 : decode cX2_clearTrials 3 = .ok (.arraylength, 1) := by decide +kernel
theorem dX2_clearTrials_4 : decode cX2_clearTrials 4 = .ok (.istore_n 2, 1) := by decide +kernel
theorem dX2_clearTrials_5 : decode cX2_clearTrials 5 = .ok (.iconst 0, 1) := by decide +kernel
theorem dX2_clearTrials_6 : decode cX2_clearTrials 6 = .ok (.istore_n 3, 1) := by decide +kernel
theorem dX2_clearTrials_7 : decode cX2_clearTrials 7 = .ok (.iload_n 3, 1) := by decide +kernel
theorem dX2_clearTrials_8 : decode cX2_clearTrials 8 = .ok (.iload_n 2, 1) := by decide +kernel
theorem dX2_clearTrials_9 : decode cX2_clearTrials 9 = .ok (.if_icmp .ge 24, 3) := by decide +kernel
theorem dX2_clearTrials_12 : decode cX2_clearTrials 12 = .ok (.aload_n 1, 1) := by decide +kernel
theorem dX2_clearTrials_13 : decode cX2_clearTrials 13 = .ok (.iload_n 3, 1) := by decide +kernel
theorem dX2_clearTrials_14 : decode cX2_clearTrials 14 = .ok (.aaload, 1) := by decide +kernel
theorem dX2_clearTrials_15 : decode cX2_clearTrials 15 = .ok (.astore 4, 2) := by decide +kernel
theorem dX2_clearTrials_17 : decode cX2_clearTrials 17 = .ok (.aload 4, 2) := by decide +kernel
theorem dX2_clearTrials_19 : decode cX2_clearTrials 19 = .ok (.ifnull 8, 3) := by decide +kernel
theorem dX2_clearTrials_22 : decode cX2_clearTrials 22 = .ok (.aload 4, 2) := by decide +kernel
theorem dX2_clearTrials_24 : decode cX2_clearTrials 24 = .ok (.invokevirtual 30, 3) := by decide +kernel
theorem dX2_clearTrials_27 : decode cX2_clearTrials 27 = .ok (.iinc 3 1, 3) := by decide +kernel
theorem dX2_clearTrials_30 : decode cX2_clearTrials 30 = .ok (.goto (-23), 3) := by decide +kernel
theorem dX2_clearTrials_33 : decode cX2_clearTrials 33 = .ok (.return_, 1) := by decide +kernel
theorem dX2_tryFrom_0 : decode cX2_tryFrom 0 = .ok (.aload_n 2, 1) := by decide +kernel
theorem dX2_tryFrom_1 : decode cX2_tryFrom 1 = .ok (.iload_n 3, 1) := by decide +kernel
theorem dX2_tryFrom_2 : decode cX2_tryFrom 2 = .ok (.invokestatic 35, 3) := by decide +kernel
theorem dX2_tryFrom_5 : decode cX2_tryFrom 5 = .ok (.astore 5, 2) := by decide +kernel
theorem dX2_tryFrom_7 : decode cX2_tryFrom 7 = .ok (.aload 5, 2) := by decide +kernel
theorem dX2_tryFrom_9 : decode cX2_tryFrom 9 = .ok (.ifnonnull 10, 3) := by decide +kernel
theorem dX2_tryFrom_12 : decode cX2_tryFrom 12 = .ok (.aload_n 0, 1) := by decide +kernel
theorem dX2_tryFrom_13 : decode cX2_tryFrom 13 = .ok (.iload 4, 2) := by decide +kernel
theorem dX2_tryFrom_15 : decode cX2_tryFrom 15 = .ok (.invokevirtual 39, 3) := by decide +kernel
theorem dX2_tryFrom_18 : decode cX2_tryFrom 18 = .ok (.return_, 1) := by decide +kernel
theorem dX2_tryFrom_19 : decode cX2_tryFrom 19 = .ok (.iconst 0, 1) := by decide +kernel
theorem dX2_tryFrom_20 : decode cX2_tryFrom 20 = .ok (.istore 6, 2) := by decide +kernel
theorem dX2_tryFrom_22 : decode cX2_tryFrom 22 = .ok (.iload 6, 2) := by decide +kernel
theorem dX2_tryFrom_24 : decode cX2_tryFrom 24 = .ok (.aload_n 1, 1) := by decide +kernel
theorem dX2_tryFrom_25 : decode cX2_tryFrom 25 = .ok (.arraylength, 1) := by decide +kernel
theorem dX2_tryFrom_26 : decode cX2_tryFrom 26 = .ok (.if_icmp .ge 77, 3) := by decide +kernel
theorem dX2_tryFrom_29 : decode cX2_tryFrom 29 = .ok (.aload_n 1, 1) := by decide +kernel
theorem dX2_tryFrom_30 : decode cX2_tryFrom 30 = .ok (.iload 6, 2) := by decide +kernel
theorem dX2_tryFrom_32 : decode cX2_tryFrom 32 = .ok (.aaload, 1) := by decide +kernel
theorem dX2_tryFrom_33 : decode cX2_tryFrom 33 = .ok (.astore 7, 2) := by decide +kernel
theorem dX2_tryFrom_35 : decode cX2_tryFrom 35 = .ok (.aload 7, 2) := by decide +kernel
theorem dX2_tryFrom_37 : decode cX2_tryFrom 37 = .ok (.ifnull 60, 3) := by decide +kernel
theorem dX2_tryFrom_40 : decode cX2_tryFrom 40 = .ok (.aload 7, 2) := by decide +kernel
theorem dX2_tryFrom_42 : decode cX2_tryFrom 42 = .ok (.aload 5, 2) := by decide +kernel
theorem dX2_tryFrom_44 : decode cX2_tryFrom 44 = .ok (.invokevirtual 43, 3) := by decide +kernel
theorem dX2_tryFrom_47 : decode cX2_tryFrom 47 = .ok (.ifCond .eq 50, 3) := by decide +kernel
theorem dX2_tryFrom_50 : decode cX2_tryFrom 50 = .ok (.aload 7, 2) := by decide +kernel
theorem dX2_tryFrom_52 : decode cX2_tryFrom 52 = .ok (.iload_n 3, 1) := by decide +kernel
theorem dX2_tryFrom_53 : decode cX2_tryFrom 53 = .ok (.aload 5, 2) := by decide +kernel
theorem dX2_tryFrom_55 : decode cX2_tryFrom 55 = .ok (.invokevirtual 47, 3) := by decide +kernel
theorem dX2_tryFrom_58 : decode cX2_tryFrom 58 = .ok (.iload 6, 2) := by decide +kernel
theorem dX2_tryFrom_60 : decode cX2_tryFrom 60 = .ok (.aload 5, 2) := by decide +kernel
theorem dX2_tryFrom_62 : decode cX2_tryFrom 62 = .ok (.getfield 51, 3) := by decide +kernel
theorem dX2_tryFrom_65 : decode cX2_tryFrom 65 = .ok (.if_icmp .ne 7, 3) := by decide +kernel
theorem dX2_tryFrom_68 : decode cX2_tryFrom 68 = .ok (.iconst 0, 1) := by decide +kernel
theorem dX2_tryFrom_69 : decode cX2_tryFrom 69 = .ok (.goto 4, 3) := by decide +kernel
theorem dX2_tryFrom_72 : decode cX2_tryFrom 72 = .ok (.iconst 1, 1) := by decide +kernel
theorem dX2_tryFrom_73 : decode cX2_tryFrom 73 = .ok (.istore 8, 2) := by decide +kernel
theorem dX2_tryFrom_75 : decode cX2_tryFrom 75 = .ok (.aload_n 0, 1) := by decide +kernel
theorem dX2_tryFrom_76 : decode cX2_tryFrom 76 = .ok (.aload_n 1, 1) := by decide +kernel
theorem dX2_tryFrom_77 : decode cX2_tryFrom 77 = .ok (.aload_n 2, 1) := by decide +kernel
theorem dX2_tryFrom_78 : decode cX2_tryFrom 78 = .ok (.iload_n 3, 1) := by decide +kernel
theorem dX2_tryFrom_79 : decode cX2_tryFrom 79 = .ok (.iconst 1, 1) := by decide +kernel
theorem dX2_tryFrom_80 : decode cX2_tryFrom 80 = .ok (.iadd, 1) := by decide +kernel
theorem dX2_tryFrom_81 : decode cX2_tryFrom 81 = .ok (.iload 4, 2) := by decide +kernel
theorem dX2_tryFrom_83 : decode cX2_tryFrom 83 = .ok (.iload 8, 2) := by decide +kernel
theorem dX2_tryFrom_85 : decode cX2_tryFrom 85 = .ok (.iadd, 1) := by decide +kernel
theorem dX2_tryFrom_86 : decode cX2_tryFrom 86 = .ok (.invokestatic 22, 3) := by decide +kernel
theorem dX2_tryFrom_89 : decode cX2_tryFrom 89 = .ok (.aload 7, 2) := by decide +kernel
theorem dX2_tryFrom_91 : decode cX2_tryFrom 91 = .ok (.iload_n 3, 1) := by decide +kernel
theorem dX2_tryFrom_92 : decode cX2_tryFrom 92 = .ok (.aload 5, 2) := by decide +kernel
theorem dX2_tryFrom_94 : decode cX2_tryFrom 94 = .ok (.invokevirtual 56, 3) := by decide +kernel
theorem dX2_tryFrom_97 : decode cX2_tryFrom 97 = .ok (.iinc 6 1, 3) := by decide +kernel
theorem dX2_tryFrom_100 : decode cX2_tryFrom 100 = .ok (.goto (-78), 3) := by decide +kernel
theorem dX2_tryFrom_103 : decode cX2_tryFrom 103 = .ok (.return_, 1) := by decide +kernel
theorem dX2_noteSound_0 : decode cX2_noteSound 0 = .ok (.aload_n 0, 1) := by decide +kernel
theorem dX2_noteSound_1 : decode cX2_noteSound 1 = .ok (.dup, 1) := by decide +kernel
theorem dX2_noteSound_2 : decode cX2_noteSound 2 = .ok (.getfield 9, 3) := by decide +kernel
theorem dX2_noteSound_5 : decode cX2_noteSound 5 = .ok (.iconst 1, 1) := by decide +kernel
theorem dX2_noteSound_6 : decode cX2_noteSound 6 = .ok (.iadd, 1) := by decide +kernel
theorem dX2_noteSound_7 : decode cX2_noteSound 7 = .ok (.putfield 9, 3) := by decide +kernel
theorem dX2_noteSound_10 : decode cX2_noteSound 10 = .ok (.aload_n 0, 1) := by decide +kernel
theorem dX2_noteSound_11 : decode cX2_noteSound 11 = .ok (.aload_n 0, 1) := by decide +kernel
theorem dX2_noteSound_12 : decode cX2_noteSound 12 = .ok (.getfield 15, 3) := by decide +kernel
theorem dX2_noteSound_15 : decode cX2_noteSound 15 = .ok (.iload_n 1, 1) := by decide +kernel
theorem dX2_noteSound_16 : decode cX2_noteSound 16 = .ok (.invokestatic 59, 3) := by decide +kernel
theorem dX2_noteSound_19 : decode cX2_noteSound 19 = .ok (.putfield 15, 3) := by decide +kernel
theorem dX2_noteSound_22 : decode cX2_noteSound 22 = .ok (.return_, 1) := by decide +kernel
theorem dX2_findFrom_0 : decode cX2_findFrom 0 = .ok (.aload_n 1, 1) := by decide +kernel
theorem dX2_findFrom_1 : decode cX2_findFrom 1 = .ok (.iload_n 2, 1) := by decide +kernel
theorem dX2_findFrom_2 : decode cX2_findFrom 2 = .ok (.invokestatic 35, 3) := by decide +kernel
theorem dX2_findFrom_5 : decode cX2_findFrom 5 = .ok (.astore 4, 2) := by decide +kernel
theorem dX2_findFrom_7 : decode cX2_findFrom 7 = .ok (.aload 4, 2) := by decide +kernel
theorem dX2_findFrom_9 : decode cX2_findFrom 9 = .ok (.ifnonnull 5, 3) := by decide +kernel
theorem dX2_findFrom_12 : decode cX2_findFrom 12 = .ok (.iconst 1, 1) := by decide +kernel
theorem dX2_findFrom_13 : decode cX2_findFrom 13 = .ok (.ireturn, 1) := by decide +kernel
theorem dX2_findFrom_14 : decode cX2_findFrom 14 = .ok (.iconst 0, 1) := by decide +kernel
theorem dX2_findFrom_15 : decode cX2_findFrom 15 = .ok (.istore 5, 2) := by decide +kernel
theorem dX2_findFrom_17 : decode cX2_findFrom 17 = .ok (.iload 5, 2) := by decide +kernel
theorem dX2_findFrom_19 : decode cX2_findFrom 19 = .ok (.aload_n 0, 1) := by decide +kernel
theorem dX2_findFrom_20 : decode cX2_findFrom 20 = .ok (.arraylength, 1) := by decide +kernel
theorem dX2_findFrom_21 : decode cX2_findFrom 21 = .ok (.if_icmp .ge 92, 3) := by decide +kernel
theorem dX2_findFrom_24 : decode cX2_findFrom 24 = .ok (.aload_n 0, 1) := by decide +kernel
theorem dX2_findFrom_25 : decode cX2_findFrom 25 = .ok (.iload 5, 2) := by decide +kernel
theorem dX2_findFrom_27 : decode cX2_findFrom 27 = .ok (.aaload, 1) := by decide +kernel
theorem dX2_findFrom_28 : decode cX2_findFrom 28 = .ok (.astore 6, 2) := by decide +kernel
theorem dX2_findFrom_30 : decode cX2_findFrom 30 = .ok (.iload 5, 2) := by decide +kernel
theorem dX2_findFrom_32 : decode cX2_findFrom 32 = .ok (.aload 4, 2) := by decide +kernel
theorem dX2_findFrom_34 : decode cX2_findFrom 34 = .ok (.getfield 51, 3) := by decide +kernel
theorem dX2_findFrom_37 : decode cX2_findFrom 37 = .ok (.if_icmp .ne 7, 3) := by decide +kernel
theorem dX2_findFrom_40 : decode cX2_findFrom 40 = .ok (.iload_n 3, 1) := by decide +kernel
theorem dX2_findFrom_41 : decode cX2_findFrom 41 = .ok (.goto 6, 3) := by decide +kernel
theorem dX2_findFrom_44 : decode cX2_findFrom 44 = .ok (.iload_n 3, 1) := by decide +kernel
theorem dX2_findFrom_45 : decode cX2_findFrom 45 = .ok (.iconst 1, 1) := by decide +kernel
theorem dX2_findFrom_46 : decode cX2_findFrom 46 = .ok (.isub, 1) := by decide +kernel
theorem dX2_findFrom_47 : decode cX2_findFrom 47 = .ok (.istore 7, 2) := by decide +kernel
theorem dX2_findFrom_49 : decode cX2_findFrom 49 = .ok (.aload 6, 2) := by decide +kernel
theorem dX2_findFrom_51 : decode cX2_findFrom 51 = .ok (.ifnull 56, 3) := by decide +kernel
theorem dX2_findFrom_54 : decode cX2_findFrom 54 = .ok (.iload 7, 2) := by decide +kernel
theorem dX2_findFrom_56 : decode cX2_findFrom 56 = .ok (.ifCond .lt 51, 3) := by decide +kernel
theorem dX2_findFrom_59 : decode cX2_findFrom 59 = .ok (.aload 6, 2) := by decide +kernel
theorem dX2_findFrom_61 : decode cX2_findFrom 61 = .ok (.aload 4, 2) := by decide +kernel
theorem dX2_findFrom_63 : decode cX2_findFrom 63 = .ok (.invokevirtual 43, 3) := by decide +kernel
theorem dX2_findFrom_66 : decode cX2_findFrom 66 = .ok (.ifCond .eq 41, 3) := by decide +kernel
theorem dX2_findFrom_69 : decode cX2_findFrom 69 = .ok (.aload 6, 2) := by decide +kernel
theorem dX2_findFrom_71 : decode cX2_findFrom 71 = .ok (.iload_n 2, 1) := by decide +kernel
theorem dX2_findFrom_72 : decode cX2_findFrom 72 = .ok (.aload 4, 2) := by decide +kernel
theorem dX2_findFrom_74 : decode cX2_findFrom 74 = .ok (.invokevirtual 47, 3) := by decide +kernel
theorem dX2_findFrom_77 : decode cX2_findFrom 77 = .ok (.aload 4, 2) := by decide +kernel
theorem dX2_findFrom_79 : decode cX2_findFrom 79 = .ok (.iload 5, 2) := by decide +kernel
theorem dX2_findFrom_81 : decode cX2_findFrom 81 = .ok (.putfield 65, 3) := by decide +kernel
theorem dX2_findFrom_84 : decode cX2_findFrom 84 = .ok (.aload_n 0, 1) := by decide +kernel
theorem dX2_findFrom_85 : decode cX2_findFrom 85 = .ok (.aload_n 1, 1) := by decide +kernel
theorem dX2_findFrom_86 : decode cX2_findFrom 86 = .ok (.iload_n 2, 1) := by decide +kernel
theorem dX2_findFrom_87 : decode cX2_findFrom 87 = .ok (.iconst 1, 1) := by decide +kernel
theorem dX2_findFrom_88 : decode cX2_findFrom 88 = .ok (.iadd, 1) := by decide +kernel
theorem dX2_findFrom_89 : decode cX2_findFrom 89 = .ok (.iload 7, 2) := by decide +kernel
theorem dX2_findFrom_91 : decode cX2_findFrom 91 = .ok (.invokestatic 26, 3) := by decide +kernel
theorem dX2_findFrom_94 : decode cX2_findFrom 94 = .ok (.ifCond .eq 5, 3) := by decide +kernel
theorem dX2_findFrom_97 : decode cX2_findFrom 97 = .ok (.iconst 1, 1) := by decide +kernel
theorem dX2_findFrom_98 : decode cX2_findFrom 98 = .ok (.ireturn, 1) := by decide +kernel
theorem dX2_findFrom_99 : decode cX2_findFrom 99 = .ok (.aload 6, 2) := by decide +kernel
theorem dX2_findFrom_101 : decode cX2_findFrom 101 = .ok (.iload_n 2, 1) := by decide +kernel
theorem dX2_findFrom_102 : decode cX2_findFrom 102 = .ok (.aload 4, 2) := by decide +kernel
theorem dX2_findFrom_104 : decode cX2_findFrom 104 = .ok (.invokevirtual 56, 3) := by decide +kernel
theorem dX2_findFrom_107 : decode cX2_findFrom 107 = .ok (.iinc 5 1, 3) := by decide +kernel
theorem dX2_findFrom_110 : decode cX2_findFrom 110 = .ok (.goto (-93), 3) := by decide +kernel
theorem dX2_findFrom_113 : decode cX2_findFrom 113 = .ok (.iconst 0, 1) := by decide +kernel
theorem dX2_findFrom_114 : decode cX2_findFrom 114 = .ok (.ireturn, 1) := by decide +kernel
theorem dX2_tenantOrNull_0 : decode cX2_tenantOrNull 0 = .ok (.iload_n 1, 1) := by decide +kernel
theorem dX2_tenantOrNull_1 : decode cX2_tenantOrNull 1 = .ok (.ifCond .lt 9, 3) := by decide +kernel
theorem dX2_tenantOrNull_4 : decode cX2_tenantOrNull 4 = .ok (.iload_n 1, 1) := by decide +kernel
theorem dX2_tenantOrNull_5 : decode cX2_tenantOrNull 5 = .ok (.aload_n 0, 1) := by decide +kernel
theorem dX2_tenantOrNull_6 : decode cX2_tenantOrNull 6 = .ok (.arraylength, 1) := by decide +kernel
theorem dX2_tenantOrNull_7 : decode cX2_tenantOrNull 7 = .ok (.if_icmp .lt 7, 3) := by decide +kernel
theorem dX2_tenantOrNull_10 : decode cX2_tenantOrNull 10 = .ok (.aconst_null, 1) := by decide +kernel
theorem dX2_tenantOrNull_11 : decode cX2_tenantOrNull 11 = .ok (.goto 6, 3) := by decide +kernel
theorem dX2_tenantOrNull_14 : decode cX2_tenantOrNull 14 = .ok (.aload_n 0, 1) := by decide +kernel
theorem dX2_tenantOrNull_15 : decode cX2_tenantOrNull 15 = .ok (.iload_n 1, 1) := by decide +kernel
theorem dX2_tenantOrNull_16 : decode cX2_tenantOrNull 16 = .ok (.aaload, 1) := by decide +kernel
theorem dX2_tenantOrNull_17 : decode cX2_tenantOrNull 17 = .ok (.areturn, 1) := by decide +kernel
theorem dX3_init_0 : decode cX3_init 0 = .ok (.aload_n 0, 1) := by decide +kernel
theorem dX3_init_1 : decode cX3_init 1 = .ok (.invokespecial 1, 3) := by decide +kernel
theorem dX3_init_4 : decode cX3_init 4 = .ok (.aload_n 0, 1) := by decide +kernel
theorem dX3_init_5 : decode cX3_init 5 = .ok (.new 7, 3) := by decide +kernel
theorem dX3_init_8 : decode cX3_init 8 = .ok (.dup, 1) := by decide +kernel
theorem dX3_init_9 : decode cX3_init 9 = .ok (.iload_n 1, 1) := by decide +kernel
theorem dX3_init_10 : decode cX3_init 10 = .ok (.iload_n 2, 1) := by decide +kernel
theorem dX3_init_11 : decode cX3_init 11 = .ok (.iload_n 3, 1) := by decide +kernel
theorem dX3_init_12 : decode cX3_init 12 = .ok (.invokespecial 9, 3) := by decide +kernel
theorem dX3_init_15 : decode cX3_init 15 = .ok (.putfield 12, 3) := by decide +kernel
theorem dX3_init_18 : decode cX3_init 18 = .ok (.aload_n 0, 1) := by decide +kernel
theorem dX3_init_19 : decode cX3_init 19 = .ok (.new 7, 3) := by decide +kernel
theorem dX3_init_22 : decode cX3_init 22 = .ok (.dup, 1) := by decide +kernel
theorem dX3_init_23 : decode cX3_init 23 = .ok (.iconst 0, 1) := by decide +kernel
theorem dX3_init_24 : decode cX3_init 24 = .ok (.iconst 0, 1) := by decide +kernel
theorem dX3_init_25 : decode cX3_init 25 = .ok (.iconst 0, 1) := by decide +kernel
theorem dX3_init_26 : decode cX3_init 26 = .ok (.invokespecial 9, 3) := by decide +kernel
theorem dX3_init_29 : decode cX3_init 29 = .ok (.putfield 18, 3) := by decide +kernel
theorem dX3_init_32 : decode cX3_init 32 = .ok (.aload_n 0, 1) := by decide +kernel
theorem dX3_init_33 : decode cX3_init 33 = .ok (.iconst 1, 1) := by decide +kernel
theorem dX3_init_34 : decode cX3_init 34 = .ok (.putfield 21, 3) := by decide +kernel
theorem dX3_init_37 : decode cX3_init 37 = .ok (.aload_n 0, 1) := by decide +kernel
theorem dX3_init_38 : decode cX3_init 38 = .ok (.new 7, 3) := by decide +kernel
theorem dX3_init_41 : decode cX3_init 41 = .ok (.dup, 1) := by decide +kernel
theorem dX3_init_42 : decode cX3_init 42 = .ok (.iconst 0, 1) := by decide +kernel
theorem dX3_init_43 : decode cX3_init 43 = .ok (.iconst 0, 1) := by decide +kernel
theorem dX3_init_44 : decode cX3_init 44 = .ok (.iconst 0, 1) := by decide +kernel
theorem dX3_init_45 : decode cX3_init 45 = .ok (.invokespecial 9, 3) := by decide +kernel
theorem dX3_init_48 : decode cX3_init 48 = .ok (.putfield 25, 3) := by decide +kernel
theorem dX3_init_51 : decode cX3_init 51 = .ok (.return_, 1) := by decide +kernel
theorem dX3_usesTooMuch_0 : decode cX3_usesTooMuch 0 = .ok (.aload_n 0, 1) := by decide +kernel
theorem dX3_usesTooMuch_1 : decode cX3_usesTooMuch 1 = .ok (.getfield 18, 3) := by decide +kernel
theorem dX3_usesTooMuch_4 : decode cX3_usesTooMuch 4 = .ok (.getfield 28, 3) := by decide +kernel
theorem dX3_usesTooMuch_7 : decode cX3_usesTooMuch 7 = .ok (.aload_n 0, 1) := by decide +kernel
theorem dX3_usesTooMuch_8 : decode cX3_usesTooMuch 8 = .ok (.getfield 12, 3) := by decide +kernel
theorem dX3_usesTooMuch_11 : decode cX3_usesTooMuch 11 = .ok (.getfield 28, 3) := by decide +kernel
theorem dX3_usesTooMuch_14 : decode cX3_usesTooMuch 14 = .ok (.if_icmp .gt 37, 3) := by decide +kernel
theorem dX3_usesTooMuch_17 : decode cX3_usesTooMuch 17 = .ok (.aload_n 0, 1) := by decide +kernel
theorem dX3_usesTooMuch_18 : decode cX3_usesTooMuch 18 = .ok (.getfield 18, 3) := by decide +kernel
theorem dX3_usesTooMuch_21 : decode cX3_usesTooMuch 21 = .ok (.getfield 32, 3) := by decide +kernel
theorem dX3_usesTooMuch_24 : decode cX3_usesTooMuch 24 = .ok (.aload_n 0, 1) := by decide +kernel
theorem dX3_usesTooMuch_25 : decode cX3_usesTooMuch 25 = .ok (.getfield 12, 3) := by decide +kernel
theorem dX3_usesTooMuch_28 : decode cX3_usesTooMuch 28 = .ok (.getfield 32, 3) := by decide +kernel
theorem dX3_usesTooMuch_31 : decode cX3_usesTooMuch 31 = .ok (.if_icmp .gt 20, 3) := by decide +kernel
theorem dX3_usesTooMuch_34 : decode cX3_usesTooMuch 34 = .ok (.aload_n 0, 1) := by decide +kernel
theorem dX3_usesTooMuch_35 : decode cX3_usesTooMuch 35 = .ok (.getfield 18, 3) := by decide +kernel
theorem dX3_usesTooMuch_38 : decode cX3_usesTooMuch 38 = .ok (.getfield 35, 3) := by decide +kernel
theorem dX3_usesTooMuch_41 : decode cX3_usesTooMuch 41 = .ok (.aload_n 0, 1) := by decide +kernel
theorem dX3_usesTooMuch_42 : decode cX3_usesTooMuch 42 = .ok (.getfield 12, 3) := by decide +kernel
theorem dX3_usesTooMuch_45 : decode cX3_usesTooMuch 45 = .ok (.getfield 35, 3) := by decide +kernel
theorem dX3_usesTooMuch_48 : decode cX3_usesTooMuch 48 = .ok (.if_icmp .le 7, 3) := by decide +kernel
theorem dX3_usesTooMuch_51 : decode cX3_usesTooMuch 51 = .ok (.iconst 1, 1) := by decide +kernel
theorem dX3_usesTooMuch_52 : decode cX3_usesTooMuch 52 = .ok (.goto 4, 3) := by decide +kernel
theorem dX3_usesTooMuch_55 : decode cX3_usesTooMuch 55 = .ok (.iconst 0, 1) := by decide +kernel
theorem dX3_usesTooMuch_56 : decode cX3_usesTooMuch 56 = .ok (.ireturn, 1) := by decide +kernel
theorem dX3_hasRoom_0 : decode cX3_hasRoom 0 = .ok (.aload_n 0, 1) := by decide +kernel
theorem dX3_hasRoom_1 : decode cX3_hasRoom 1 = .ok (.getfield 18, 3) := by decide +kernel
theorem dX3_hasRoom_4 : decode cX3_hasRoom 4 = .ok (.getfield 28, 3) := by decide +kernel
theorem dX3_hasRoom_7 : decode cX3_hasRoom 7 = .ok (.iload_n 1, 1) := by decide +kernel
theorem dX3_hasRoom_8 : decode cX3_hasRoom 8 = .ok (.iadd, 1) := by decide +kernel
theorem dX3_hasRoom_9 : decode cX3_hasRoom 9 = .ok (.aload_n 0, 1) := by decide +kernel
theorem dX3_hasRoom_10 : decode cX3_hasRoom 10 = .ok (.getfield 12, 3) := by decide +kernel
theorem dX3_hasRoom_13 : decode cX3_hasRoom 13 = .ok (.getfield 28, 3) := by decide +kernel
theorem dX3_hasRoom_16 : decode cX3_hasRoom 16 = .ok (.if_icmp .gt 45, 3) := by decide +kernel
theorem dX3_hasRoom_19 : decode cX3_hasRoom 19 = .ok (.aload_n 0, 1) := by decide +kernel
theorem dX3_hasRoom_20 : decode cX3_hasRoom 20 = .ok (.getfield 18, 3) := by decide +kernel
theorem dX3_hasRoom_23 : decode cX3_hasRoom 23 = .ok (.getfield 32, 3) := by decide +kernel
theorem dX3_hasRoom_26 : decode cX3_hasRoom 26 = .ok (.iload_n 2, 1) := by decide +kernel
theorem dX3_hasRoom_27 : decode cX3_hasRoom 27 = .ok (.iadd, 1) := by decide +kernel
theorem dX3_hasRoom_28 : decode cX3_hasRoom 28 = .ok (.aload_n 0, 1) := by decide +kernel
theorem dX3_hasRoom_29 : decode cX3_hasRoom 29 = .ok (.getfield 12, 3) := by decide +kernel
theorem dX3_hasRoom_32 : decode cX3_hasRoom 32 = .ok (.getfield 32, 3) := by decide +kernel
theorem dX3_hasRoom_35 : decode cX3_hasRoom 35 = .ok (.if_icmp .gt 26, 3) := by decide +kernel
theorem dX3_hasRoom_38 : decode cX3_hasRoom 38 = .ok (.aload_n 0, 1) := by decide +kernel
theorem dX3_hasRoom_39 : decode cX3_hasRoom 39 = .ok (.getfield 18, 3) := by decide +kernel
theorem dX3_hasRoom_42 : decode cX3_hasRoom 42 = .ok (.getfield 35, 3) := by decide +kernel
theorem dX3_hasRoom_45 : decode cX3_hasRoom 45 = .ok (.iload_n 3, 1) := by decide +kernel
theorem dX3_hasRoom_46 : decode cX3_hasRoom 46 = .ok (.iadd, 1) := by decide +kernel
theorem dX3_hasRoom_47 : decode cX3_hasRoom 47 = .ok (.aload_n 0, 1) := by decide +kernel
theorem dX3_hasRoom_48 : decode cX3_hasRoom 48 = .ok (.getfield 12, 3) := by decide +kernel
theorem dX3_hasRoom_51 : decode cX3_hasRoom 51 = .ok (.getfield 35, 3) := by decide +kernel
theorem dX3_hasRoom_54 : decode cX3_hasRoom 54 = .ok (.if_icmp .gt 7, 3) := by decide +kernel
theorem dX3_hasRoom_57 : decode cX3_hasRoom 57 = .ok (.iconst 1, 1) := by decide +kernel
theorem dX3_hasRoom_58 : decode cX3_hasRoom 58 = .ok (.goto 4, 3) := by decide +kernel
theorem dX3_hasRoom_61 : decode cX3_hasRoom 61 = .ok (.iconst 0, 1) := by decide +kernel
theorem dX3_hasRoom_62 : decode cX3_hasRoom 62 = .ok (.ireturn, 1) := by decide +kernel
theorem dX3_hasRoomBesidesStorage_0 : decode cX3_hasRoomBesidesStorage 0 = .ok (.aload_n 0, 1) := by decide +kernel
theorem dX3_hasRoomBesidesStorage_1 : decode cX3_hasRoomBesidesStorage 1 = .ok (.getfield 18, 3) := by decide +kernel
theorem dX3_hasRoomBesidesStorage_4 : decode cX3_hasRoomBesidesStorage 4 = .ok (.getfield 32, 3) := by decide +kernel
theorem dX3_hasRoomBesidesStorage_7 : decode cX3_hasRoomBesidesStorage 7 = .ok (.aload_n 1, 1) := by decide +kernel
theorem dX3_hasRoomBesidesStorage_8 : decode cX3_hasRoomBesidesStorage 8 = .ok (.getfield 32, 3) := by decide +kernel
theorem dX3_hasRoomBesidesStorage_11 : decode cX3_hasRoomBesidesStorage 11 = .ok (.iadd, 1) := by decide +kernel
theorem dX3_hasRoomBesidesStorage_12 : decode cX3_hasRoomBesidesStorage 12 = .ok (.aload_n 0, 1) := by decide +kernel
theorem dX3_hasRoomBesidesStorage_13 : decode cX3_hasRoomBesidesStorage 13 = .ok (.getfield 12, 3) := by decide +kernel
theorem dX3_hasRoomBesidesStorage_16 : decode cX3_hasRoomBesidesStorage 16 = .ok (.getfield 32, 3) := by decide +kernel
theorem dX3_hasRoomBesidesStorage_19 : decode cX3_hasRoomBesidesStorage 19 = .ok (.if_icmp .gt 29, 3) := by decide +kernel
theorem dX3_hasRoomBesidesStorage_22 : decode cX3_hasRoomBesidesStorage 22 = .ok (.aload_n 0, 1) := by decide +kernel
theorem dX3_hasRoomBesidesStorage_23 : decode cX3_hasRoomBesidesStorage 23 = .ok (.getfield 18, 3) := by decide +kernel
theorem dX3_hasRoomBesidesStorage_26 : decode cX3_hasRoomBesidesStorage 26 = .ok (.getfield 35, 3) := by decide +kernel
theorem dX3_hasRoomBesidesStorage_29 : decode cX3_hasRoomBesidesStorage 29 = .ok (.aload_n 1, 1) := by decide +kernel
theorem dX3_hasRoomBesidesStorage_30 : decode cX3_hasRoomBesidesStorage 30 = .ok (.getfield 35, 3) := by decide +kernel
theorem dX3_hasRoomBesidesStorage_33 : decode cX3_hasRoomBesidesStorage 33 = .ok (.iadd, 1) := by decide +kernel
theorem dX3_hasRoomBesidesStorage_34 : decode cX3_hasRoomBesidesStorage 34 = .ok (.aload_n 0, 1) := by decide +kernel
theorem dX3_hasRoomBesidesStorage_35 : decode cX3_hasRoomBesidesStorage 35 = .ok (.getfield 12, 3) := by decide +kernel
theorem dX3_hasRoomBesidesStorage_38 : decode cX3_hasRoomBesidesStorage 38 = .ok (.getfield 35, 3) := by decide +kernel
theorem dX3_hasRoomBesidesStorage_41 : decode cX3_hasRoomBesidesStorage 41 = .ok (.if_icmp .gt 7, 3) := by decide +kernel
theorem dX3_hasRoomBesidesStorage_44 : decode cX3_hasRoomBesidesStorage 44 = .ok (.iconst 1, 1) := by decide +kernel
theorem dX3_hasRoomBesidesStorage_45 : decode cX3_hasRoomBesidesStorage 45 = .ok (.goto 4, 3) := by decide +kernel
theorem dX3_hasRoomBesidesStorage_48 : decode cX3_hasRoomBesidesStorage 48 = .ok (.iconst 0, 1) := by decide +kernel
theorem dX3_hasRoomBesidesStorage_49 : decode cX3_hasRoomBesidesStorage 49 = .ok (.ireturn, 1) := by decide +kernel
theorem dX3_takesInTrial_0 : decode cX3_takesInTrial 0 = .ok (.aload_n 1, 1) := by decide +kernel
theorem dX3_takesInTrial_1 : decode cX3_takesInTrial 1 = .ok (.getfield 38, 3) := by decide +kernel
theorem dX3_takesInTrial_4 : decode cX3_takesInTrial 4 = .ok (.astore_n 2, 1) := by decide +kernel
theorem dX3_takesInTrial_5 : decode cX3_takesInTrial 5 = .ok (.aload_n 0, 1) := by decide +kernel
theorem dX3_takesInTrial_6 : decode cX3_takesInTrial 6 = .ok (.getfield 21, 3) := by decide +kernel
theorem dX3_takesInTrial_9 : decode cX3_takesInTrial 9 = .ok (.ifCond .eq 85, 3) := by decide +kernel
theorem dX3_takesInTrial_12 : decode cX3_takesInTrial 12 = .ok (.aload_n 0, 1) := by decide +kernel
theorem dX3_takesInTrial_13 : decode cX3_takesInTrial 13 = .ok (.getfield 43, 3) := by decide +kernel
theorem dX3_takesInTrial_16 : decode cX3_takesInTrial 16 = .ok (.aload_n 1, 1) := by decide +kernel
theorem dX3_takesInTrial_17 : decode cX3_takesInTrial 17 = .ok (.getfield 46, 3) := by decide +kernel
theorem dX3_takesInTrial_20 : decode cX3_takesInTrial 20 = .ok (.iand, 1) := by decide +kernel
theorem dX3_takesInTrial_21 : decode cX3_takesInTrial 21 = .ok (.ifCond .ne 73, 3) := by decide +kernel
theorem dX3_takesInTrial_24 : decode cX3_takesInTrial 24 = .ok (.aload_n 0, 1) := by decide +kernel
theorem dX3_takesInTrial_25 : decode cX3_takesInTrial 25 = .ok (.getfield 25, 3) := by decide +kernel
theorem dX3_takesInTrial_28 : decode cX3_takesInTrial 28 = .ok (.getfield 28, 3) := by decide +kernel
theorem dX3_takesInTrial_31 : decode cX3_takesInTrial 31 = .ok (.aload_n 2, 1) := by decide +kernel
theorem dX3_takesInTrial_32 : decode cX3_takesInTrial 32 = .ok (.getfield 28, 3) := by decide +kernel
theorem dX3_takesInTrial_35 : decode cX3_takesInTrial 35 = .ok (.iadd, 1) := by decide +kernel
theorem dX3_takesInTrial_36 : decode cX3_takesInTrial 36 = .ok (.aload_n 0, 1) := by decide +kernel
theorem dX3_takesInTrial_37 : decode cX3_takesInTrial 37 = .ok (.getfield 12, 3) := by decide +kernel
theorem dX3_takesInTrial_40 : decode cX3_takesInTrial 40 = .ok (.getfield 28, 3) := by decide +kernel
theorem dX3_takesInTrial_43 : decode cX3_takesInTrial 43 = .ok (.if_icmp .gt 51, 3) := by decide +kernel
theorem dX3_takesInTrial_46 : decode cX3_takesInTrial 46 = .ok (.aload_n 0, 1) := by decide +kernel
theorem dX3_takesInTrial_47 : decode cX3_takesInTrial 47 = .ok (.getfield 25, 3) := by decide +kernel
theorem dX3_takesInTrial_50 : decode cX3_takesInTrial 50 = .ok (.getfield 32, 3) := by decide +kernel
theorem dX3_takesInTrial_53 : decode cX3_takesInTrial 53 = .ok (.aload_n 2, 1) := by decide +kernel
theorem dX3_takesInTrial_54 : decode cX3_takesInTrial 54 = .ok (.getfield 32, 3) := by decide +kernel
theorem dX3_takesInTrial_57 : decode cX3_takesInTrial 57 = .ok (.iadd, 1) := by decide +kernel
theorem dX3_takesInTrial_58 : decode cX3_takesInTrial 58 = .ok (.aload_n 0, 1) := by decide +kernel
theorem dX3_takesInTrial_59 : decode cX3_takesInTrial 59 = .ok (.getfield 12, 3) := by decide +kernel
theorem dX3_takesInTrial_62 : decode cX3_takesInTrial 62 = .ok (.getfield 32, 3) := by decide +kernel
theorem dX3_takesInTrial_65 : decode cX3_takesInTrial 65 = .ok (.if_icmp .gt 29, 3) := by decide +kernel
theorem dX3_takesInTrial_68 : decode cX3_takesInTrial 68 = .ok (.aload_n 0, 1) := by decide +kernel
theorem dX3_takesInTrial_69 : decode cX3_takesInTrial 69 = .ok (.getfield 25, 3) := by decide +kernel
theorem dX3_takesInTrial_72 : decode cX3_takesInTrial 72 = .ok (.getfield 35, 3) := by decide +kernel
theorem dX3_takesInTrial_75 : decode cX3_takesInTrial 75 = .ok (.aload_n 2, 1) := by decide +kernel
theorem dX3_takesInTrial_76 : decode cX3_takesInTrial 76 = .ok (.getfield 35, 3) := by decide +kernel
theorem dX3_takesInTrial_79 : decode cX3_takesInTrial 79 = .ok (.iadd, 1) := by decide +kernel
theorem dX3_takesInTrial_80 : decode cX3_takesInTrial 80 = .ok (.aload_n 0, 1) := by decide +kernel
theorem dX3_takesInTrial_81 : decode cX3_takesInTrial 81 = .ok (.getfield 12, 3) := by decide +kernel
theorem dX3_takesInTrial_84 : decode cX3_takesInTrial 84 = .ok (.getfield 35, 3) := by decide +kernel
theorem dX3_takesInTrial_87 : decode cX3_takesInTrial 87 = .ok (.if_icmp .gt 7, 3) := by decide +kernel
theorem dX3_takesInTrial_90 : decode cX3_takesInTrial 90 = .ok (.iconst 1, 1) := by decide +kernel
theorem dX3_takesInTrial_91 : decode cX3_takesInTrial 91 = .ok (.goto 4, 3) := by decide +kernel
theorem dX3_takesInTrial_94 : decode cX3_takesInTrial 94 = .ok (.iconst 0, 1) := by decide +kernel
theorem dX3_takesInTrial_95 : decode cX3_takesInTrial 95 = .ok (.ireturn, 1) := by decide +kernel
theorem dX3_putInTrial_0 : decode cX3_putInTrial 0 = .ok (.aload_n 0, 1) := by decide +kernel
theorem dX3_putInTrial_1 : decode cX3_putInTrial 1 = .ok (.dup, 1) := by decide +kernel
theorem dX3_putInTrial_2 : decode cX3_putInTrial 2 = .ok (.getfield 43, 3) := by decide +kernel
theorem dX3_putInTrial_5 : decode cX3_putInTrial 5 = .ok (.iconst 1, 1) := by decide +kernel
theorem dX3_putInTrial_6 : decode cX3_putInTrial 6 = .ok (.iload_n 1, 1) := by decide +kernel
theorem dX3_putInTrial_7 : decode cX3_putInTrial 7 = .ok (.ishl, 1) := by decide +kernel
theorem dX3_putInTrial_8 : decode cX3_putInTrial 8 = .ok (.ior, 1) := by decide +kernel
theorem dX3_putInTrial_9 : decode cX3_putInTrial 9 = .ok (.putfield 43, 3) := by decide +kernel
theorem dX3_putInTrial_12 : decode cX3_putInTrial 12 = .ok (.aload_n 0, 1) := by decide +kernel
theorem dX3_putInTrial_13 : decode cX3_putInTrial 13 = .ok (.getfield 25, 3) := by decide +kernel
theorem dX3_putInTrial_16 : decode cX3_putInTrial 16 = .ok (.aload_n 2, 1) := by decide +kernel
theorem dX3_putInTrial_17 : decode cX3_putInTrial 17 = .ok (.getfield 38, 3) := by decide +kernel
theorem dX3_putInTrial_20 : decode cX3_putInTrial 20 = .ok (.invokevirtual 49, 3) := by decide +kernel
theorem dX3_putInTrial_23 : decode cX3_putInTrial 23 = .ok (.return_, 1) := by decide +kernel
theorem dX3_takeFromTrial_0 : decode cX3_takeFromTrial 0 = .ok (.aload_n 0, 1) := by decide +kernel
theorem dX3_takeFromTrial_1 : decode cX3_takeFromTrial 1 = .ok (.dup, 1) := by decide +kernel
theorem dX3_takeFromTrial_2 : decode cX3_takeFromTrial 2 = .ok (.getfield 43, 3) := by decide +kernel
theorem dX3_takeFromTrial_5 : decode cX3_takeFromTrial 5 = .ok (.iconst 1, 1) := by decide +kernel
theorem dX3_takeFromTrial_6 : decode cX3_takeFromTrial 6 = .ok (.iload_n 1, 1) := by decide +kernel
theorem dX3_takeFromTrial_7 : decode cX3_takeFromTrial 7 = .ok (.ishl, 1) := by decide +kernel
theorem dX3_takeFromTrial_8 : decode cX3_takeFromTrial 8 = .ok (.iconst (-1), 1) := by decide +kernel
theorem dX3_takeFromTrial_9 : decode cX3_takeFromTrial 9 = .ok (.ixor, 1) := by decide +kernel
theorem dX3_takeFromTrial_10 : decode cX3_takeFromTrial 10 = .ok (.iand, 1) := by decide +kernel
theorem dX3_takeFromTrial_11 : decode cX3_takeFromTrial 11 = .ok (.putfield 43, 3) := by decide +kernel
theorem dX3_takeFromTrial_14 : decode cX3_takeFromTrial 14 = .ok (.aload_n 0, 1) := by decide +kernel
theorem dX3_takeFromTrial_15 : decode cX3_takeFromTrial 15 = .ok (.getfield 25, 3) := by decide +kernel
theorem dX3_takeFromTrial_18 : decode cX3_takeFromTrial 18 = .ok (.aload_n 2, 1) := by decide +kernel
theorem dX3_takeFromTrial_19 : decode cX3_takeFromTrial 19 = .ok (.getfield 38, 3) := by decide +kernel
theorem dX3_takeFromTrial_22 : decode cX3_takeFromTrial 22 = .ok (.invokevirtual 53, 3) := by decide +kernel
theorem dX3_takeFromTrial_25 : decode cX3_takeFromTrial 25 = .ok (.return_, 1) := by decide +kernel
theorem dX3_clearTrial_0 : decode cX3_clearTrial 0 = .ok (.aload_n 0, 1) := by decide +kernel
theorem dX3_clearTrial_1 : decode cX3_clearTrial 1 = .ok (.iconst 0, 1) := by decide +kernel
theorem dX3_clearTrial_2 : decode cX3_clearTrial 2 = .ok (.putfield 43, 3) := by decide +kernel
theorem dX3_clearTrial_5 : decode cX3_clearTrial 5 = .ok (.aload_n 0, 1) := by decide +kernel
theorem dX3_clearTrial_6 : decode cX3_clearTrial 6 = .ok (.getfield 25, 3) := by decide +kernel
theorem dX3_clearTrial_9 : decode cX3_clearTrial 9 = .ok (.invokevirtual 56, 3) := by decide +kernel
theorem dX3_clearTrial_12 : decode cX3_clearTrial 12 = .ok (.return_, 1) := by decide +kernel
theorem dX4_init_0 : decode cX4_init 0 = .ok (.aload_n 0, 1) := by decide +kernel
theorem dX4_init_1 : decode cX4_init 1 = .ok (.invokespecial 3, 3) := by decide +kernel
theorem dX4_init_4 : decode cX4_init 4 = .ok (.aload_n 0, 1) := by decide +kernel
theorem dX4_init_5 : decode cX4_init 5 = .ok (.iload_n 1, 1) := by decide +kernel
theorem dX4_init_6 : decode cX4_init 6 = .ok (.putfield 9, 3) := by decide +kernel
theorem dX4_init_9 : decode cX4_init 9 = .ok (.aload_n 0, 1) := by decide +kernel
theorem dX4_init_10 : decode cX4_init 10 = .ok (.iload 5, 2) := by decide +kernel
theorem dX4_init_12 : decode cX4_init 12 = .ok (.putfield 15, 3) := by decide +kernel
theorem dX4_init_15 : decode cX4_init 15 = .ok (.aload_n 0, 1) := by decide +kernel
theorem dX4_init_16 : decode cX4_init 16 = .ok (.new 18, 3) := by decide +kernel
theorem dX4_init_19 : decode cX4_init 19 = .ok (.dup, 1) := by decide +kernel
theorem dX4_init_20 : decode cX4_init 20 = .ok (.iload_n 2, 1) := by decide +kernel
theorem dX4_init_21 : decode cX4_init 21 = .ok (.iload_n 3, 1) := by decide +kernel
theorem dX4_init_22 : decode cX4_init 22 = .ok (.iload 4, 2) := by decide +kernel
theorem dX4_init_24 : decode cX4_init 24 = .ok (.invokespecial 20, 3) := by decide +kernel
theorem dX4_init_27 : decode cX4_init 27 = .ok (.putfield 23, 3) := by decide +kernel
theorem dX4_init_30 : decode cX4_init 30 = .ok (.aload_n 0, 1) := by decide +kernel
theorem dX4_init_31 : decode cX4_init 31 = .ok (.new 27, 3) := by decide +kernel
theorem dX4_init_34 : decode cX4_init 34 = .ok (.dup, 1) := by decide +kernel
theorem dX4_init_35 : decode cX4_init 35 = .ok (.invokespecial 29, 3) := by decide +kernel
theorem dX4_init_38 : decode cX4_init 38 = .ok (.putfield 30, 3) := by decide +kernel
theorem dX4_init_41 : decode cX4_init 41 = .ok (.return_, 1) := by decide +kernel
theorem dX4_isApartFrom_0 : decode cX4_isApartFrom 0 = .ok (.aload_n 0, 1) := by decide +kernel
theorem dX4_isApartFrom_1 : decode cX4_isApartFrom 1 = .ok (.getfield 34, 3) := by decide +kernel
theorem dX4_isApartFrom_4 : decode cX4_isApartFrom 4 = .ok (.iload_n 1, 1) := by decide +kernel
theorem dX4_isApartFrom_5 : decode cX4_isApartFrom 5 = .ok (.ishr, 1) := by decide +kernel
theorem dX4_isApartFrom_6 : decode cX4_isApartFrom 6 = .ok (.iconst 1, 1) := by decide +kernel
theorem dX4_isApartFrom_7 : decode cX4_isApartFrom 7 = .ok (.iand, 1) := by decide +kernel
theorem dX4_isApartFrom_8 : decode cX4_isApartFrom 8 = .ok (.ifCond .eq 7, 3) := by decide +kernel
theorem dX4_isApartFrom_11 : decode cX4_isApartFrom 11 = .ok (.iconst 1, 1) := by decide +kernel
theorem dX4_isApartFrom_12 : decode cX4_isApartFrom 12 = .ok (.goto 4, 3) := by decide +kernel
theorem dX4_isApartFrom_15 : decode cX4_isApartFrom 15 = .ok (.iconst 0, 1) := by decide +kernel
theorem dX4_isApartFrom_16 : decode cX4_isApartFrom 16 = .ok (.ireturn, 1) := by decide +kernel
theorem dX4_isPresentOn_0 : decode cX4_isPresentOn 0 = .ok (.aload_n 0, 1) := by decide +kernel
theorem dX4_isPresentOn_1 : decode cX4_isPresentOn 1 = .ok (.getfield 9, 3) := by decide +kernel
theorem dX4_isPresentOn_4 : decode cX4_isPresentOn 4 = .ok (.iload_n 1, 1) := by decide +kernel
theorem dX4_isPresentOn_5 : decode cX4_isPresentOn 5 = .ok (.if_icmp .eq 24, 3) := by decide +kernel
theorem dX4_isPresentOn_8 : decode cX4_isPresentOn 8 = .ok (.aload_n 0, 1) := by decide +kernel
theorem dX4_isPresentOn_9 : decode cX4_isPresentOn 9 = .ok (.getfield 30, 3) := by decide +kernel
theorem dX4_isPresentOn_12 : decode cX4_isPresentOn 12 = .ok (.invokevirtual 37, 3) := by decide +kernel
theorem dX4_isPresentOn_15 : decode cX4_isPresentOn 15 = .ok (.ifCond .eq 18, 3) := by decide +kernel
theorem dX4_isPresentOn_18 : decode cX4_isPresentOn 18 = .ok (.aload_n 0, 1) := by decide +kernel
theorem dX4_isPresentOn_19 : decode cX4_isPresentOn 19 = .ok (.getfield 30, 3) := by decide +kernel
theorem dX4_isPresentOn_22 : decode cX4_isPresentOn 22 = .ok (.getfield 41, 3) := by decide +kernel
theorem dX4_isPresentOn_25 : decode cX4_isPresentOn 25 = .ok (.iload_n 1, 1) := by decide +kernel
theorem dX4_isPresentOn_26 : decode cX4_isPresentOn 26 = .ok (.if_icmp .ne 7, 3) := by decide +kernel
theorem dX4_isPresentOn_29 : decode cX4_isPresentOn 29 = .ok (.iconst 1, 1) := by decide +kernel
theorem dX4_isPresentOn_30 : decode cX4_isPresentOn 30 = .ok (.goto 4, 3) := by decide +kernel
theorem dX4_isPresentOn_33 : decode cX4_isPresentOn 33 = .ok (.iconst 0, 1) := by decide +kernel
theorem dX4_isPresentOn_34 : decode cX4_isPresentOn 34 = .ok (.ireturn, 1) := by decide +kernel
theorem dX4_useOn_0 : decode cX4_useOn 0 = .ok (.aload_n 0, 1) := by decide +kernel
theorem dX4_useOn_1 : decode cX4_useOn 1 = .ok (.iload_n 1, 1) := by decide +kernel
theorem dX4_useOn_2 : decode cX4_useOn 2 = .ok (.invokevirtual 44, 3) := by decide +kernel
theorem dX4_useOn_5 : decode cX4_useOn 5 = .ok (.ifCond .ne 18, 3) := by decide +kernel
theorem dX4_useOn_8 : decode cX4_useOn 8 = .ok (.iload_n 2, 1) := by decide +kernel
theorem dX4_useOn_9 : decode cX4_useOn 9 = .ok (.ifCond .ne 18, 3) := by decide +kernel
theorem dX4_useOn_12 : decode cX4_useOn 12 = .ok (.aload_n 0, 1) := by decide +kernel
theorem dX4_useOn_13 : decode cX4_useOn 13 = .ok (.getfield 30, 3) := by decide +kernel
theorem dX4_useOn_16 : decode cX4_useOn 16 = .ok (.iload_n 1, 1) := by decide +kernel
theorem dX4_useOn_17 : decode cX4_useOn 17 = .ok (.invokevirtual 48, 3) := by decide +kernel
theorem dX4_useOn_20 : decode cX4_useOn 20 = .ok (.ifCond .eq 7, 3) := by decide +kernel
theorem dX4_useOn_23 : decode cX4_useOn 23 = .ok (.iconst 1, 1) := by decide +kernel
theorem dX4_useOn_24 : decode cX4_useOn 24 = .ok (.goto 4, 3) := by decide +kernel
theorem dX4_useOn_27 : decode cX4_useOn 27 = .ok (.iconst 0, 1) := by decide +kernel
theorem dX4_useOn_28 : decode cX4_useOn 28 = .ok (.istore_n 3, 1) := by decide +kernel
theorem dX4_useOn_29 : decode cX4_useOn 29 = .ok (.iload_n 3, 1) := by decide +kernel
theorem dX4_useOn_30 : decode cX4_useOn 30 = .ok (.ifCond .eq 14, 3) := by decide +kernel
theorem dX4_useOn_33 : decode cX4_useOn 33 = .ok (.aload_n 0, 1) := by decide +kernel
theorem dX4_useOn_34 : decode cX4_useOn 34 = .ok (.getfield 23, 3) := by decide +kernel
theorem dX4_useOn_37 : decode cX4_useOn 37 = .ok (.iload_n 2, 1) := by decide +kernel
theorem dX4_useOn_38 : decode cX4_useOn 38 = .ok (.invokevirtual 51, 3) := by decide +kernel
theorem dX4_useOn_41 : decode cX4_useOn 41 = .ok (.goto 4, 3) := by decide +kernel
theorem dX4_useOn_44 : decode cX4_useOn 44 = .ok (.iconst 0, 1) := by decide +kernel
theorem dX4_useOn_45 : decode cX4_useOn 45 = .ok (.ireturn, 1) := by decide +kernel
theorem dX4_windowHours_0 : decode cX4_windowHours 0 = .ok (.aload_n 0, 1) := by decide +kernel
theorem dX4_windowHours_1 : decode cX4_windowHours 1 = .ok (.getfield 55, 3) := by decide +kernel
theorem dX4_windowHours_4 : decode cX4_windowHours 4 = .ok (.aload_n 0, 1) := by decide +kernel
theorem dX4_windowHours_5 : decode cX4_windowHours 5 = .ok (.getfield 58, 3) := by decide +kernel
theorem dX4_windowHours_8 : decode cX4_windowHours 8 = .ok (.isub, 1) := by decide +kernel
theorem dX4_windowHours_9 : decode cX4_windowHours 9 = .ok (.bipush 24, 2) := by decide +kernel
theorem dX4_windowHours_11 : decode cX4_windowHours 11 = .ok (.invokestatic 61, 3) := by decide +kernel
theorem dX4_windowHours_14 : decode cX4_windowHours 14 = .ok (.istore_n 1, 1) := by decide +kernel
theorem dX4_windowHours_15 : decode cX4_windowHours 15 = .ok (.iload_n 1, 1) := by decide +kernel
theorem dX4_windowHours_16 : decode cX4_windowHours 16 = .ok (.ifCond .ne 8, 3) := by decide +kernel
theorem dX4_windowHours_19 : decode cX4_windowHours 19 = .ok (.bipush 24, 2) := by decide +kernel
theorem dX4_windowHours_21 : decode cX4_windowHours 21 = .ok (.goto 4, 3) := by decide +kernel
theorem dX4_windowHours_24 : decode cX4_windowHours 24 = .ok (.iload_n 1, 1) := by decide +kernel
theorem dX4_windowHours_25 : decode cX4_windowHours 25 = .ok (.ireturn, 1) := by decide +kernel
theorem dX4_isInWindow_0 : decode cX4_isInWindow 0 = .ok (.iload_n 1, 1) := by decide +kernel
theorem dX4_isInWindow_1 : decode cX4_isInWindow 1 = .ok (.aload_n 0, 1) := by decide +kernel
theorem dX4_isInWindow_2 : decode cX4_isInWindow 2 = .ok (.getfield 58, 3) := by decide +kernel
theorem dX4_isInWindow_5 : decode cX4_isInWindow 5 = .ok (.isub, 1) := by decide +kernel
theorem dX4_isInWindow_6 : decode cX4_isInWindow 6 = .ok (.bipush 24, 2) := by decide +kernel
theorem dX4_isInWindow_8 : decode cX4_isInWindow 8 = .ok (.invokestatic 61, 3) := by decide +kernel
theorem dX4_isInWindow_11 : decode cX4_isInWindow 11 = .ok (.aload_n 0, 1) := by decide +kernel
theorem dX4_isInWindow_12 : decode cX4_isInWindow 12 = .ok (.invokevirtual 67, 3) := by decide +kernel
theorem dX4_isInWindow_15 : decode cX4_isInWindow 15 = .ok (.if_icmp .ge 7, 3) := by decide +kernel
theorem dX4_isInWindow_18 : decode cX4_isInWindow 18 = .ok (.iconst 1, 1) := by decide +kernel
theorem dX4_isInWindow_19 : decode cX4_isInWindow 19 = .ok (.goto 4, 3) := by decide +kernel
theorem dX4_isInWindow_22 : decode cX4_isInWindow 22 = .ok (.iconst 0, 1) := by decide +kernel
theorem dX4_isInWindow_23 : decode cX4_isInWindow 23 = .ok (.ireturn, 1) := by decide +kernel
theorem dX4_hoursToWindow_0 : decode cX4_hoursToWindow 0 = .ok (.aload_n 0, 1) := by decide +kernel
theorem dX4_hoursToWindow_1 : decode cX4_hoursToWindow 1 = .ok (.iload_n 1, 1) := by decide +kernel
theorem dX4_hoursToWindow_2 : decode cX4_hoursToWindow 2 = .ok (.invokevirtual 71, 3) := by decide +kernel
theorem dX4_hoursToWindow_5 : decode cX4_hoursToWindow 5 = .ok (.ifCond .eq 7, 3) := by decide +kernel
theorem dX4_hoursToWindow_8 : decode cX4_hoursToWindow 8 = .ok (.iconst 0, 1) := by decide +kernel
theorem dX4_hoursToWindow_9 : decode cX4_hoursToWindow 9 = .ok (.goto 14, 3) := by decide +kernel
theorem dX4_hoursToWindow_12 : decode cX4_hoursToWindow 12 = .ok (.aload_n 0, 1) := by decide +kernel
theorem dX4_hoursToWindow_13 : decode cX4_hoursToWindow 13 = .ok (.getfield 58, 3) := by decide +kernel
theorem dX4_hoursToWindow_16 : decode cX4_hoursToWindow 16 = .ok (.iload_n 1, 1) := by decide +kernel
theorem dX4_hoursToWindow_17 : decode cX4_hoursToWindow 17 = .ok (.isub, 1) := by decide +kernel
theorem dX4_hoursToWindow_18 : decode cX4_hoursToWindow 18 = .ok (.bipush 24, 2) := by decide +kernel
theorem dX4_hoursToWindow_20 : decode cX4_hoursToWindow 20 = .ok (.invokestatic 61, 3) := by decide +kernel
theorem dX4_hoursToWindow_23 : decode cX4_hoursToWindow 23 = .ok (.ireturn, 1) := by decide +kernel
theorem dX5_init_0 : decode cX5_init 0 = .ok (.aload_n 0, 1) := by decide +kernel
theorem dX5_init_1 : decode cX5_init 1 = .ok (.invokespecial 1, 3) := by decide +kernel
theorem dX5_init_4 : decode cX5_init 4 = .ok (.aload_n 0, 1) := by decide +kernel
theorem dX5_init_5 : decode cX5_init 5 = .ok (.iconst 4, 1) := by decide +kernel
theorem dX5_init_6 : decode cX5_init 6 = .ok (.anewarray 9, 3) := by decide +kernel
theorem dX5_init_9 : decode cX5_init 9 = .ok (.putfield 11, 3) := by decide +kernel
theorem dX5_init_12 : decode cX5_init 12 = .ok (.aload_n 0, 1) := by decide +kernel
theorem dX5_init_13 : decode cX5_init 13 = .ok (.bipush 6, 2) := by decide +kernel
theorem dX5_init_15 : decode cX5_init 15 = .ok (.anewarray 15, 3) := by decide +kernel
theorem dX5_init_18 : decode cX5_init 18 = .ok (.putfield 17, 3) := by decide +kernel
theorem dX5_init_21 : decode cX5_init 21 = .ok (.aload_n 0, 1) := by decide +kernel
theorem dX5_init_22 : decode cX5_init 22 = .ok (.new 21, 3) := by decide +kernel
theorem dX5_init_25 : decode cX5_init 25 = .ok (.dup, 1) := by decide +kernel
theorem dX5_init_26 : decode cX5_init 26 = .ok (.invokespecial 23, 3) := by decide +kernel
theorem dX5_init_29 : decode cX5_init 29 = .ok (.putfield 24, 3) := by decide +kernel
theorem dX5_init_32 : decode cX5_init 32 = .ok (.aload_n 0, 1) := by decide +kernel
theorem dX5_init_33 : decode cX5_init 33 = .ok (.new 28, 3) := by decide +kernel
theorem dX5_init_36 : decode cX5_init 36 = .ok (.dup, 1) := by decide +kernel
theorem dX5_init_37 : decode cX5_init 37 = .ok (.invokespecial 30, 3) := by decide +kernel
theorem dX5_init_40 : decode cX5_init 40 = .ok (.putfield 31, 3) := by decide +kernel
theorem dX5_init_43 : decode cX5_init 43 = .ok (.return_, 1) := by decide +kernel
theorem dX5_addShard_0 : decode cX5_addShard 0 = .ok (.iload_n 1, 1) := by decide +kernel
theorem dX5_addShard_1 : decode cX5_addShard 1 = .ok (.iconst 1, 1) := by decide +kernel
theorem dX5_addShard_2 : decode cX5_addShard 2 = .ok (.sipush 300, 3) := by decide +kernel
theorem dX5_addShard_5 : decode cX5_addShard 5 = .ok (.invokestatic 35, 3) := by decide +kernel
theorem dX5_addShard_8 : decode cX5_addShard 8 = .ok (.iload_n 2, 1) := by decide +kernel
theorem dX5_addShard_9 : decode cX5_addShard 9 = .ok (.iconst 1, 1) := by decide +kernel
theorem dX5_addShard_10 : decode cX5_addShard 10 = .ok (.sipush 300, 3) := by decide +kernel
theorem dX5_addShard_13 : decode cX5_addShard 13 = .ok (.invokestatic 35, 3) := by decide +kernel
theorem dX5_addShard_16 : decode cX5_addShard 16 = .ok (.iload_n 3, 1) := by decide +kernel
theorem dX5_addShard_17 : decode cX5_addShard 17 = .ok (.iconst 1, 1) := by decide +kernel
theorem dX5_addShard_18 : decode cX5_addShard 18 = .ok (.sipush 300, 3) := by decide +kernel
theorem dX5_addShard_21 : decode cX5_addShard 21 = .ok (.invokestatic 35, 3) := by decide +kernel
theorem dX5_addShard_24 : decode cX5_addShard 24 = .ok (.aload_n 0, 1) := by decide +kernel
theorem dX5_addShard_25 : decode cX5_addShard 25 = .ok (.invokevirtual 39, 3) := by decide +kernel
theorem dX5_addShard_28 : decode cX5_addShard 28 = .ok (.istore 4, 2) := by decide +kernel
theorem dX5_addShard_30 : decode cX5_addShard 30 = .ok (.iload 4, 2) := by decide +kernel
theorem dX5_addShard_32 : decode cX5_addShard 32 = .ok (.aload_n 0, 1) := by decide +kernel
theorem dX5_addShard_33 : decode cX5_addShard 33 = .ok (.getfield 11, 3) := by decide +kernel
theorem dX5_addShard_36 : decode cX5_addShard 36 = .ok (.arraylength, 1) := by decide +kernel
theorem dX5_addShard_37 : decode cX5_addShard 37 = .ok (.if_icmp .lt 13, 3) := by decide +kernel
theorem dX5_addShard_40 : decode cX5_addShard 40 = .ok (.new 43, 3) := by decide +kernel
theorem dX5_addShard_43 : decode cX5_addShard 43 = .ok (.dup, 1) := by decide +kernel
theorem dX5_addShard_44 : decode cX5_addShard 44 = .ok (.ldc 45, 2) := by decide +kernel
theorem dX5_addShard_46 : decode cX5_addShard 46 = .ok (.invokespecial 47, 3) := by decide +kernel
theorem dX5_addShard_49 : decode cX5_addShard 49 = .ok (.athrow, 1) := by decide +kernel
theorem dX5_addShard_50 : decode cX5_addShard 50 = .ok (.aload_n 0, 1) := by decide +kernel
theorem dX5_addShard_51 : decode cX5_addShard 51 = .ok (.getfield 11, 3) := by decide +kernel
theorem dX5_addShard_54 : decode cX5_addShard 54 = .ok (.iload 4, 2) := by decide +kernel
theorem dX5_addShard_56 : decode cX5_addShard 56 = .ok (.new 9, 3) := by decide +kernel
theorem dX5_addShard_59 : decode cX5_addShard 59 = .ok (.dup, 1) := by decide +kernel
theorem dX5_addShard_60 : decode cX5_addShard 60 = .ok (.iload_n 1, 1) := by decide +kernel
theorem dX5_addShard_61 : decode cX5_addShard 61 = .ok (.iload_n 2, 1) := by decide +kernel
theorem dX5_addShard_62 : decode cX5_addShard 62 = .ok (.iload_n 3, 1) := by decide +kernel
theorem dX5_addShard_63 : decode cX5_addShard 63 = .ok (.invokespecial 50, 3) := by decide +kernel
theorem dX5_addShard_66 : decode cX5_addShard 66 = .ok (.aastore, 1) := by decide +kernel
theorem dX5_addShard_67 : decode cX5_addShard 67 = .ok (.iload 4, 2) := by decide +kernel
theorem dX5_addShard_69 : decode cX5_addShard 69 = .ok (.ireturn, 1) := by decide +kernel
theorem dX5_setOpen_0 : decode cX5_setOpen 0 = .ok (.aload_n 0, 1) := by decide +kernel
theorem dX5_setOpen_1 : decode cX5_setOpen 1 = .ok (.iload_n 1, 1) := by decide +kernel
theorem dX5_setOpen_2 : decode cX5_setOpen 2 = .ok (.invokevirtual 52, 3) := by decide +kernel
theorem dX5_setOpen_5 : decode cX5_setOpen 5 = .ok (.astore_n 3, 1) := by decide +kernel
theorem dX5_setOpen_6 : decode cX5_setOpen 6 = .ok (.aload_n 3, 1) := by decide +kernel
theorem dX5_setOpen_7 : decode cX5_setOpen 7 = .ok (.getfield 56, 3) := by decide +kernel
theorem dX5_setOpen_10 : decode cX5_setOpen 10 = .ok (.istore 4, 2) := by decide +kernel
theorem dX5_setOpen_12 : decode cX5_setOpen 12 = .ok (.aload_n 3, 1) := by decide +kernel
theorem dX5_setOpen_13 : decode cX5_setOpen 13 = .ok (.iload_n 2, 1) := by decide +kernel
theorem dX5_setOpen_14 : decode cX5_setOpen 14 = .ok (.putfield 56, 3) := by decide +kernel
theorem dX5_setOpen_17 : decode cX5_setOpen 17 = .ok (.iload 4, 2) := by decide +kernel
theorem dX5_setOpen_19 : decode cX5_setOpen 19 = .ok (.ireturn, 1) := by decide +kernel
theorem dX5_setLimit_0 : decode cX5_setLimit 0 = .ok (.aload_n 0, 1) := by decide +kernel
theorem dX5_setLimit_1 : decode cX5_setLimit 1 = .ok (.iload_n 1, 1) := by decide +kernel
theorem dX5_setLimit_2 : decode cX5_setLimit 2 = .ok (.invokevirtual 52, 3) := by decide +kernel
theorem dX5_setLimit_5 : decode cX5_setLimit 5 = .ok (.astore 4, 2) := by decide +kernel
theorem dX5_setLimit_7 : decode cX5_setLimit 7 = .ok (.iload_n 2, 1) := by decide +kernel
theorem dX5_setLimit_8 : decode cX5_setLimit 8 = .ok (.invokestatic 60, 3) := by decide +kernel
theorem dX5_setLimit_11 : decode cX5_setLimit 11 = .ok (.iload_n 3, 1) := by decide +kernel
theorem dX5_setLimit_12 : decode cX5_setLimit 12 = .ok (.iconst 1, 1) := by decide +kernel
theorem dX5_setLimit_13 : decode cX5_setLimit 13 = .ok (.sipush 300, 3) := by decide +kernel
theorem dX5_setLimit_16 : decode cX5_setLimit 16 = .ok (.invokestatic 35, 3) := by decide +kernel
theorem dX5_setLimit_19 : decode cX5_setLimit 19 = .ok (.aload 4, 2) := by decide +kernel
theorem dX5_setLimit_21 : decode cX5_setLimit 21 = .ok (.getfield 64, 3) := by decide +kernel
theorem dX5_setLimit_24 : decode cX5_setLimit 24 = .ok (.iload_n 2, 1) := by decide +kernel
theorem dX5_setLimit_25 : decode cX5_setLimit 25 = .ok (.invokevirtual 68, 3) := by decide +kernel
theorem dX5_setLimit_28 : decode cX5_setLimit 28 = .ok (.istore 5, 2) := by decide +kernel
theorem dX5_setLimit_30 : decode cX5_setLimit 30 = .ok (.aload 4, 2) := by decide +kernel
theorem dX5_setLimit_32 : decode cX5_setLimit 32 = .ok (.getfield 64, 3) := by decide +kernel
theorem dX5_setLimit_35 : decode cX5_setLimit 35 = .ok (.iload_n 2, 1) := by decide +kernel
theorem dX5_setLimit_36 : decode cX5_setLimit 36 = .ok (.iload_n 3, 1) := by decide +kernel
theorem dX5_setLimit_37 : decode cX5_setLimit 37 = .ok (.invokevirtual 74, 3) := by decide +kernel
theorem dX5_setLimit_40 : decode cX5_setLimit 40 = .ok (.iload 5, 2) := by decide +kernel
theorem dX5_setLimit_42 : decode cX5_setLimit 42 = .ok (.ireturn, 1) := by decide +kernel
theorem dX5_addTenant_0 : decode cX5_addTenant 0 = .ok (.aload_n 0, 1) := by decide +kernel
theorem dX5_addTenant_1 : decode cX5_addTenant 1 = .ok (.iload_n 1, 1) := by decide +kernel
theorem dX5_addTenant_2 : decode cX5_addTenant 2 = .ok (.invokevirtual 52, 3) := by decide +kernel
theorem dX5_addTenant_5 : decode cX5_addTenant 5 = .ok (.astore 6, 2) := by decide +kernel
theorem dX5_addTenant_7 : decode cX5_addTenant 7 = .ok (.iload_n 2, 1) := by decide +kernel
theorem dX5_addTenant_8 : decode cX5_addTenant 8 = .ok (.iconst 1, 1) := by decide +kernel
theorem dX5_addTenant_9 : decode cX5_addTenant 9 = .ok (.bipush 100, 2) := by decide +kernel
theorem dX5_addTenant_11 : decode cX5_addTenant 11 = .ok (.invokestatic 35, 3) := by decide +kernel
theorem dX5_addTenant_14 : decode cX5_addTenant 14 = .ok (.iload_n 3, 1) := by decide +kernel
theorem dX5_addTenant_15 : decode cX5_addTenant 15 = .ok (.iconst 1, 1) := by decide +kernel
theorem dX5_addTenant_16 : decode cX5_addTenant 16 = .ok (.bipush 100, 2) := by decide +kernel
theorem dX5_addTenant_18 : decode cX5_addTenant 18 = .ok (.invokestatic 35, 3) := by decide +kernel
theorem dX5_addTenant_21 : decode cX5_addTenant 21 = .ok (.iload 4, 2) := by decide +kernel
theorem dX5_addTenant_23 : decode cX5_addTenant 23 = .ok (.iconst 1, 1) := by decide +kernel
theorem dX5_addTenant_24 : decode cX5_addTenant 24 = .ok (.bipush 100, 2) := by decide +kernel
theorem dX5_addTenant_26 : decode cX5_addTenant 26 = .ok (.invokestatic 35, 3) := by decide +kernel
theorem dX5_addTenant_29 : decode cX5_addTenant 29 = .ok (.iload 5, 2) := by decide +kernel
theorem dX5_addTenant_31 : decode cX5_addTenant 31 = .ok (.iconst 0, 1) := by decide +kernel
theorem dX5_addTenant_32 : decode cX5_addTenant 32 = .ok (.bipush 9, 2) := by decide +kernel
theorem dX5_addTenant_34 : decode cX5_addTenant 34 = .ok (.invokestatic 35, 3) := by decide +kernel
theorem dX5_addTenant_37 : decode cX5_addTenant 37 = .ok (.aload 6, 2) := by decide +kernel
theorem dX5_addTenant_39 : decode cX5_addTenant 39 = .ok (.getfield 56, 3) := by decide +kernel
theorem dX5_addTenant_42 : decode cX5_addTenant 42 = .ok (.ifCond .eq 15, 3) := by decide +kernel
theorem dX5_addTenant_45 : decode cX5_addTenant 45 = .ok (.aload 6, 2) := by decide +kernel
theorem dX5_addTenant_47 : decode cX5_addTenant 47 = .ok (.iload_n 2, 1) := by decide +kernel
theorem dX5_addTenant_48 : decode cX5_addTenant 48 = .ok (.iload_n 3, 1) := by decide +kernel
theorem dX5_addTenant_49 : decode cX5_addTenant 49 = .ok (.iload 4, 2) := by decide +kernel
theorem dX5_addTenant_51 : decode cX5_addTenant 51 = .ok (.invokevirtual 78, 3) := by decide +kernel
theorem dX5_addTenant_54 : decode cX5_addTenant 54 = .ok (.ifCond .ne 13, 3) := by decide +kernel
theorem dX5_addTenant_57 : decode cX5_addTenant 57 = .ok (.new 82, 3) := by decide +kernel
theorem dX5_addTenant_60 : decode cX5_addTenant 60 = .ok (.dup, 1) := by decide +kernel
theorem dX5_addTenant_61 : decode cX5_addTenant 61 = .ok (.ldc 84, 2) := by decide +kernel
theorem dX5_addTenant_63 : decode cX5_addTenant 63 = .ok (.invokespecial 86, 3) := by decide +kernel
theorem dX5_addTenant_66 : decode cX5_addTenant 66 = .ok (.athrow, 1) := by decide +kernel
theorem dX5_addTenant_67 : decode cX5_addTenant 67 = .ok (.aload_n 0, 1) := by decide +kernel
theorem dX5_addTenant_68 : decode cX5_addTenant 68 = .ok (.invokevirtual 87, 3) := by decide +kernel
theorem dX5_addTenant_71 : decode cX5_addTenant 71 = .ok (.istore 7, 2) := by decide +kernel
theorem dX5_addTenant_73 : decode cX5_addTenant 73 = .ok (.iload 7, 2) := by decide +kernel
theorem dX5_addTenant_75 : decode cX5_addTenant 75 = .ok (.aload_n 0, 1) := by decide +kernel
theorem dX5_addTenant_76 : decode cX5_addTenant 76 = .ok (.getfield 17, 3) := by decide +kernel
theorem dX5_addTenant_79 : decode cX5_addTenant 79 = .ok (.arraylength, 1) := by decide +kernel
theorem dX5_addTenant_80 : decode cX5_addTenant 80 = .ok (.if_icmp .lt 13, 3) := by decide +kernel
theorem dX5_addTenant_83 : decode cX5_addTenant 83 = .ok (.new 43, 3) := by decide +kernel
theorem dX5_addTenant_86 : decode cX5_addTenant 86 = .ok (.dup, 1) := by decide +kernel
theorem dX5_addTenant_87 : decode cX5_addTenant 87 = .ok (.ldc 90, 2) := by decide +kernel
theorem dX5_addTenant_89 : decode cX5_addTenant 89 = .ok (.invokespecial 47, 3) := by decide +kernel
theorem dX5_addTenant_92 : decode cX5_addTenant 92 = .ok (.athrow, 1) := by decide +kernel
theorem dX5_addTenant_93 : decode cX5_addTenant 93 = .ok (.new 15, 3) := by decide +kernel
theorem dX5_addTenant_96 : decode cX5_addTenant 96 = .ok (.dup, 1) := by decide +kernel
theorem dX5_addTenant_97 : decode cX5_addTenant 97 = .ok (.iload_n 1, 1) := by decide +kernel
theorem dX5_addTenant_98 : decode cX5_addTenant 98 = .ok (.iload_n 2, 1) := by decide +kernel
theorem dX5_addTenant_99 : decode cX5_addTenant 99 = .ok (.iload_n 3, 1) := by decide +kernel
theorem dX5_addTenant_100 : decode cX5_addTenant 100 = .ok (.iload 4, 2) := by decide +kernel
theorem dX5_addTenant_102 : decode cX5_addTenant 102 = .ok (.iload 5, 2) := by decide +kernel
theorem dX5_addTenant_104 : decode cX5_addTenant 104 = .ok (.invokespecial 92, 3) := by decide +kernel
theorem dX5_addTenant_107 : decode cX5_addTenant 107 = .ok (.astore 8, 2) := by decide +kernel
theorem dX5_addTenant_109 : decode cX5_addTenant 109 = .ok (.aload_n 0, 1) := by decide +kernel
theorem dX5_addTenant_110 : decode cX5_addTenant 110 = .ok (.getfield 17, 3) := by decide +kernel
theorem dX5_addTenant_113 : decode cX5_addTenant 113 = .ok (.iload 7, 2) := by decide +kernel
theorem dX5_addTenant_115 : decode cX5_addTenant 115 = .ok (.aload 8, 2) := by decide +kernel
theorem dX5_addTenant_117 : decode cX5_addTenant 117 = .ok (.aastore, 1) := by decide +kernel
theorem dX5_addTenant_118 : decode cX5_addTenant 118 = .ok (.aload_n 0, 1) := by decide +kernel
theorem dX5_addTenant_119 : decode cX5_addTenant 119 = .ok (.aload 8, 2) := by decide +kernel
theorem dX5_addTenant_121 : decode cX5_addTenant 121 = .ok (.iconst 1, 1) := by decide +kernel
theorem dX5_addTenant_122 : decode cX5_addTenant 122 = .ok (.invokevirtual 95, 3) := by decide +kernel
theorem dX5_addTenant_125 : decode cX5_addTenant 125 = .ok (.iload 7, 2) := by decide +kernel
theorem dX5_addTenant_127 : decode cX5_addTenant 127 = .ok (.ireturn, 1) := by decide +kernel
theorem dX5_setSize_0 : decode cX5_setSize 0 = .ok (.aload_n 0, 1) := by decide +kernel
theorem dX5_setSize_1 : decode cX5_setSize 1 = .ok (.iload_n 1, 1) := by decide +kernel
theorem dX5_setSize_2 : decode cX5_setSize 2 = .ok (.invokevirtual 99, 3) := by decide +kernel
theorem dX5_setSize_5 : decode cX5_setSize 5 = .ok (.astore 4, 2) := by decide +kernel
theorem dX5_setSize_7 : decode cX5_setSize 7 = .ok (.iload_n 2, 1) := by decide +kernel
theorem dX5_setSize_8 : decode cX5_setSize 8 = .ok (.iconst 1, 1) := by decide +kernel
theorem dX5_setSize_9 : decode cX5_setSize 9 = .ok (.iconst 2, 1) := by decide +kernel
theorem dX5_setSize_10 : decode cX5_setSize 10 = .ok (.invokestatic 35, 3) := by decide +kernel
theorem dX5_setSize_13 : decode cX5_setSize 13 = .ok (.iload_n 3, 1) := by decide +kernel
theorem dX5_setSize_14 : decode cX5_setSize 14 = .ok (.iconst 1, 1) := by decide +kernel
theorem dX5_setSize_15 : decode cX5_setSize 15 = .ok (.bipush 100, 2) := by decide +kernel
theorem dX5_setSize_17 : decode cX5_setSize 17 = .ok (.invokestatic 35, 3) := by decide +kernel
theorem dX5_setSize_20 : decode cX5_setSize 20 = .ok (.aload 4, 2) := by decide +kernel
theorem dX5_setSize_22 : decode cX5_setSize 22 = .ok (.getfield 103, 3) := by decide +kernel
theorem dX5_setSize_25 : decode cX5_setSize 25 = .ok (.iload_n 2, 1) := by decide +kernel
theorem dX5_setSize_26 : decode cX5_setSize 26 = .ok (.invokevirtual 68, 3) := by decide +kernel
theorem dX5_setSize_29 : decode cX5_setSize 29 = .ok (.istore 5, 2) := by decide +kernel
theorem dX5_setSize_31 : decode cX5_setSize 31 = .ok (.aload_n 0, 1) := by decide +kernel
theorem dX5_setSize_32 : decode cX5_setSize 32 = .ok (.aload 4, 2) := by decide +kernel
theorem dX5_setSize_34 : decode cX5_setSize 34 = .ok (.iconst (-1), 1) := by decide +kernel
theorem dX5_setSize_35 : decode cX5_setSize 35 = .ok (.invokevirtual 95, 3) := by decide +kernel
theorem dX5_setSize_38 : decode cX5_setSize 38 = .ok (.aload 4, 2) := by decide +kernel
theorem dX5_setSize_40 : decode cX5_setSize 40 = .ok (.getfield 103, 3) := by decide +kernel
theorem dX5_setSize_43 : decode cX5_setSize 43 = .ok (.iload_n 2, 1) := by decide +kernel
theorem dX5_setSize_44 : decode cX5_setSize 44 = .ok (.iload_n 3, 1) := by decide +kernel
theorem dX5_setSize_45 : decode cX5_setSize 45 = .ok (.invokevirtual 74, 3) := by decide +kernel
theorem dX5_setSize_48 : decode cX5_setSize 48 = .ok (.aload_n 0, 1) := by decide +kernel
theorem dX5_setSize_49 : decode cX5_setSize 49 = .ok (.aload 4, 2) := by decide +kernel
theorem dX5_setSize_51 : decode cX5_setSize 51 = .ok (.iconst 1, 1) := by decide +kernel
theorem dX5_setSize_52 : decode cX5_setSize 52 = .ok (.invokevirtual 95, 3) := by decide +kernel
theorem dX5_setSize_55 : decode cX5_setSize 55 = .ok (.iload 5, 2) := by decide +kernel
theorem dX5_setSize_57 : decode cX5_setSize 57 = .ok (.ireturn, 1) := by decide +kernel
theorem dX5_setWindow_0 : decode cX5_setWindow 0 = .ok (.aload_n 0, 1) := by decide +kernel
theorem dX5_setWindow_1 : decode cX5_setWindow 1 = .ok (.iload_n 1, 1) := by decide +kernel
theorem dX5_setWindow_2 : decode cX5_setWindow 2 = .ok (.invokevirtual 99, 3) := by decide +kernel
theorem dX5_setWindow_5 : decode cX5_setWindow 5 = .ok (.astore 4, 2) := by decide +kernel
theorem dX5_setWindow_7 : decode cX5_setWindow 7 = .ok (.iload_n 2, 1) := by decide +kernel
theorem dX5_setWindow_8 : decode cX5_setWindow 8 = .ok (.iconst 0, 1) := by decide +kernel
theorem dX5_setWindow_9 : decode cX5_setWindow 9 = .ok (.bipush 23, 2) := by decide +kernel
theorem dX5_setWindow_11 : decode cX5_setWindow 11 = .ok (.invokestatic 35, 3) := by decide +kernel
theorem dX5_setWindow_14 : decode cX5_setWindow 14 = .ok (.iload_n 3, 1) := by decide +kernel
theorem dX5_setWindow_15 : decode cX5_setWindow 15 = .ok (.iconst 0, 1) := by decide +kernel
theorem dX5_setWindow_16 : decode cX5_setWindow 16 = .ok (.bipush 23, 2) := by decide +kernel
theorem dX5_setWindow_18 : decode cX5_setWindow 18 = .ok (.invokestatic 35, 3) := by decide +kernel
theorem dX5_setWindow_21 : decode cX5_setWindow 21 = .ok (.aload 4, 2) := by decide +kernel
theorem dX5_setWindow_23 : decode cX5_setWindow 23 = .ok (.iload_n 2, 1) := by decide +kernel
theorem dX5_setWindow_24 : decode cX5_setWindow 24 = .ok (.putfield 106, 3) := by decide +kernel
theorem dX5_setWindow_27 : decode cX5_setWindow 27 = .ok (.aload 4, 2) := by decide +kernel
theorem dX5_setWindow_29 : decode cX5_setWindow 29 = .ok (.iload_n 3, 1) := by decide +kernel
theorem dX5_setWindow_30 : decode cX5_setWindow 30 = .ok (.putfield 110, 3) := by decide +kernel
theorem dX5_setWindow_33 : decode cX5_setWindow 33 = .ok (.aload 4, 2) := by decide +kernel
theorem dX5_setWindow_35 : decode cX5_setWindow 35 = .ok (.invokevirtual 113, 3) := by decide +kernel
theorem dX5_setWindow_38 : decode cX5_setWindow 38 = .ok (.ireturn, 1) := by decide +kernel
theorem dX5_keepApart_0 : decode cX5_keepApart 0 = .ok (.aload_n 0, 1) := by decide +kernel
theorem dX5_keepApart_1 : decode cX5_keepApart 1 = .ok (.iload_n 1, 1) := by decide +kernel
theorem dX5_keepApart_2 : decode cX5_keepApart 2 = .ok (.invokevirtual 99, 3) := by decide +kernel
theorem dX5_keepApart_5 : decode cX5_keepApart 5 = .ok (.astore_n 3, 1) := by decide +kernel
theorem dX5_keepApart_6 : decode cX5_keepApart 6 = .ok (.aload_n 0, 1) := by decide +kernel
theorem dX5_keepApart_7 : decode cX5_keepApart 7 = .ok (.iload_n 2, 1) := by decide +kernel
theorem dX5_keepApart_8 : decode cX5_keepApart 8 = .ok (.invokevirtual 99, 3) := by decide +kernel
theorem dX5_keepApart_11 : decode cX5_keepApart 11 = .ok (.astore 4, 2) := by decide +kernel
theorem dX5_keepApart_13 : decode cX5_keepApart 13 = .ok (.iload_n 1, 1) := by decide +kernel
theorem dX5_keepApart_14 : decode cX5_keepApart 14 = .ok (.iload_n 2, 1) := by decide +kernel
theorem dX5_keepApart_15 : decode cX5_keepApart 15 = .ok (.if_icmp .ne 13, 3) := by decide +kernel
theorem dX5_keepApart_18 : decode cX5_keepApart 18 = .ok (.new 116, 3) := by decide +kernel
theorem dX5_keepApart_21 : decode cX5_keepApart 21 = .ok (.dup, 1) := by decide +kernel
theorem dX5_keepApart_22 : decode cX5_keepApart 22 = .ok (.ldc 118, 2) := by decide +kernel
theorem dX5_keepApart_24 : decode cX5_keepApart 24 = .ok (.invokespecial 120, 3) := by decide +kernel
theorem dX5_keepApart_27 : decode cX5_keepApart 27 = .ok (.athrow, 1) := by decide +kernel
theorem dX5_keepApart_28 : decode cX5_keepApart 28 = .ok (.aload_n 3, 1) := by decide +kernel
theorem dX5_keepApart_29 : decode cX5_keepApart 29 = .ok (.iload_n 2, 1) := by decide +kernel
theorem dX5_keepApart_30 : decode cX5_keepApart 30 = .ok (.invokevirtual 121, 3) := by decide +kernel
theorem dX5_keepApart_33 : decode cX5_keepApart 33 = .ok (.ifCond .eq 13, 3) := by decide +kernel
theorem dX5_keepApart_36 : decode cX5_keepApart 36 = .ok (.new 82, 3) := by decide +kernel
theorem dX5_keepApart_39 : decode cX5_keepApart 39 = .ok (.dup, 1) := by decide +kernel
theorem dX5_keepApart_40 : decode cX5_keepApart 40 = .ok (.ldc 125, 2) := by decide +kernel
theorem dX5_keepApart_42 : decode cX5_keepApart 42 = .ok (.invokespecial 86, 3) := by decide +kernel
theorem dX5_keepApart_45 : decode cX5_keepApart 45 = .ok (.athrow, 1) := by decide +kernel
theorem dX5_keepApart_46 : decode cX5_keepApart 46 = .ok (.aload_n 0, 1) := by decide +kernel
theorem dX5_keepApart_47 : decode cX5_keepApart 47 = .ok (.getfield 127, 3) := by decide +kernel
theorem dX5_keepApart_50 : decode cX5_keepApart 50 = .ok (.bipush 6, 2) := by decide +kernel
theorem dX5_keepApart_52 : decode cX5_keepApart 52 = .ok (.if_icmp .lt 13, 3) := by decide +kernel
theorem dX5_keepApart_55 : decode cX5_keepApart 55 = .ok (.new 43, 3) := by decide +kernel
theorem dX5_keepApart_58 : decode cX5_keepApart 58 = .ok (.dup, 1) := by decide +kernel
theorem dX5_keepApart_59 : decode cX5_keepApart 59 = .ok (.ldc 130, 2) := by decide +kernel
theorem dX5_keepApart_61 : decode cX5_keepApart 61 = .ok (.invokespecial 47, 3) := by decide +kernel
theorem dX5_keepApart_64 : decode cX5_keepApart 64 = .ok (.athrow, 1) := by decide +kernel
theorem dX5_keepApart_65 : decode cX5_keepApart 65 = .ok (.aload_n 3, 1) := by decide +kernel
theorem dX5_keepApart_66 : decode cX5_keepApart 66 = .ok (.dup, 1) := by decide +kernel
theorem dX5_keepApart_67 : decode cX5_keepApart 67 = .ok (.getfield 132, 3) := by decide +kernel
theorem dX5_keepApart_70 : decode cX5_keepApart 70 = .ok (.iconst 1, 1) := by decide +kernel
theorem dX5_keepApart_71 : decode cX5_keepApart 71 = .ok (.iload_n 2, 1) := by decide +kernel
theorem dX5_keepApart_72 : decode cX5_keepApart 72 = .ok (.ishl, 1) := by decide +kernel
theorem dX5_keepApart_73 : decode cX5_keepApart 73 = .ok (.ior, 1) := by decide +kernel
theorem dX5_keepApart_74 : decode cX5_keepApart 74 = .ok (.putfield 132, 3) := by decide +kernel
theorem dX5_keepApart_77 : decode cX5_keepApart 77 = .ok (.aload 4, 2) := by decide +kernel
theorem dX5_keepApart_79 : decode cX5_keepApart 79 = .ok (.dup, 1) := by decide +kernel
theorem dX5_keepApart_80 : decode cX5_keepApart 80 = .ok (.getfield 132, 3) := by decide +kernel
theorem dX5_keepApart_83 : decode cX5_keepApart 83 = .ok (.iconst 1, 1) := by decide +kernel
theorem dX5_keepApart_84 : decode cX5_keepApart 84 = .ok (.iload_n 1, 1) := by decide +kernel
theorem dX5_keepApart_85 : decode cX5_keepApart 85 = .ok (.ishl, 1) := by decide +kernel
theorem dX5_keepApart_86 : decode cX5_keepApart 86 = .ok (.ior, 1) := by decide +kernel
theorem dX5_keepApart_87 : decode cX5_keepApart 87 = .ok (.putfield 132, 3) := by decide +kernel
theorem dX5_keepApart_90 : decode cX5_keepApart 90 = .ok (.aload_n 0, 1) := by decide +kernel
theorem dX5_keepApart_91 : decode cX5_keepApart 91 = .ok (.dup, 1) := by decide +kernel
theorem dX5_keepApart_92 : decode cX5_keepApart 92 = .ok (.getfield 127, 3) := by decide +kernel
theorem dX5_keepApart_95 : decode cX5_keepApart 95 = .ok (.iconst 1, 1) := by decide +kernel
theorem dX5_keepApart_96 : decode cX5_keepApart 96 = .ok (.iadd, 1) := by decide +kernel
theorem dX5_keepApart_97 : decode cX5_keepApart 97 = .ok (.putfield 127, 3) := by decide +kernel
theorem dX5_keepApart_100 : decode cX5_keepApart 100 = .ok (.aload_n 0, 1) := by decide +kernel
theorem dX5_keepApart_101 : decode cX5_keepApart 101 = .ok (.getfield 127, 3) := by decide +kernel
theorem dX5_keepApart_104 : decode cX5_keepApart 104 = .ok (.ireturn, 1) := by decide +kernel
theorem dX5_move_0 : decode cX5_move 0 = .ok (.aload_n 0, 1) := by decide +kernel
theorem dX5_move_1 : decode cX5_move 1 = .ok (.iload_n 1, 1) := by decide +kernel
theorem dX5_move_2 : decode cX5_move 2 = .ok (.invokevirtual 99, 3) := by decide +kernel
theorem dX5_move_5 : decode cX5_move 5 = .ok (.astore_n 3, 1) := by decide +kernel
theorem dX5_move_6 : decode cX5_move 6 = .ok (.aload_n 0, 1) := by decide +kernel
theorem dX5_move_7 : decode cX5_move 7 = .ok (.iload_n 1, 1) := by decide +kernel
theorem dX5_move_8 : decode cX5_move 8 = .ok (.iload_n 2, 1) := by decide +kernel
theorem dX5_move_9 : decode cX5_move 9 = .ok (.invokevirtual 135, 3) := by decide +kernel
theorem dX5_move_12 : decode cX5_move 12 = .ok (.bipush 110, 2) := by decide +kernel
theorem dX5_move_14 : decode cX5_move 14 = .ok (.if_icmp .eq 13, 3) := by decide +kernel
theorem dX5_move_17 : decode cX5_move 17 = .ok (.new 82, 3) := by decide +kernel
theorem dX5_move_20 : decode cX5_move 20 = .ok (.dup, 1) := by decide +kernel
theorem dX5_move_21 : decode cX5_move 21 = .ok (.ldc 139, 2) := by decide +kernel
theorem dX5_move_23 : decode cX5_move 23 = .ok (.invokespecial 86, 3) := by decide +kernel
theorem dX5_move_26 : decode cX5_move 26 = .ok (.athrow, 1) := by decide +kernel
theorem dX5_move_27 : decode cX5_move 27 = .ok (.aload_n 0, 1) := by decide +kernel
theorem dX5_move_28 : decode cX5_move 28 = .ok (.invokevirtual 141, 3) := by decide +kernel
theorem dX5_move_31 : decode cX5_move 31 = .ok (.iconst 3, 1) := by decide +kernel
theorem dX5_move_32 : decode cX5_move 32 = .ok (.if_icmp .lt 13, 3) := by decide +kernel
theorem dX5_move_35 : decode cX5_move 35 = .ok (.new 43, 3) := by decide +kernel
theorem dX5_move_38 : decode cX5_move 38 = .ok (.dup, 1) := by decide +kernel
theorem dX5_move_39 : decode cX5_move 39 = .ok (.ldc 144, 2) := by decide +kernel
theorem dX5_move_41 : decode cX5_move 41 = .ok (.invokespecial 47, 3) := by decide +kernel
theorem dX5_move_44 : decode cX5_move 44 = .ok (.athrow, 1) := by decide +kernel
theorem dX5_move_45 : decode cX5_move 45 = .ok (.aload_n 3, 1) := by decide +kernel
theorem dX5_move_46 : decode cX5_move 46 = .ok (.getfield 103, 3) := by decide +kernel
theorem dX5_move_49 : decode cX5_move 49 = .ok (.iconst 0, 1) := by decide +kernel
theorem dX5_move_50 : decode cX5_move 50 = .ok (.invokevirtual 68, 3) := by decide +kernel
theorem dX5_move_53 : decode cX5_move 53 = .ok (.bipush 20, 2) := by decide +kernel
theorem dX5_move_55 : decode cX5_move 55 = .ok (.iadd, 1) := by decide +kernel
theorem dX5_move_56 : decode cX5_move 56 = .ok (.iconst 1, 1) := by decide +kernel
theorem dX5_move_57 : decode cX5_move 57 = .ok (.isub, 1) := by decide +kernel
theorem dX5_move_58 : decode cX5_move 58 = .ok (.bipush 20, 2) := by decide +kernel
theorem dX5_move_60 : decode cX5_move 60 = .ok (.idiv, 1) := by decide +kernel
theorem dX5_move_61 : decode cX5_move 61 = .ok (.istore 4, 2) := by decide +kernel
theorem dX5_move_63 : decode cX5_move 63 = .ok (.aload_n 0, 1) := by decide +kernel
theorem dX5_move_64 : decode cX5_move 64 = .ok (.aload_n 3, 1) := by decide +kernel
theorem dX5_move_65 : decode cX5_move 65 = .ok (.iconst (-1), 1) := by decide +kernel
theorem dX5_move_66 : decode cX5_move 66 = .ok (.invokevirtual 95, 3) := by decide +kernel
theorem dX5_move_69 : decode cX5_move 69 = .ok (.aload_n 3, 1) := by decide +kernel
theorem dX5_move_70 : decode cX5_move 70 = .ok (.getfield 146, 3) := by decide +kernel
theorem dX5_move_73 : decode cX5_move 73 = .ok (.aload_n 3, 1) := by decide +kernel
theorem dX5_move_74 : decode cX5_move 74 = .ok (.getfield 149, 3) := by decide +kernel
theorem dX5_move_77 : decode cX5_move 77 = .ok (.iload_n 2, 1) := by decide +kernel
theorem dX5_move_78 : decode cX5_move 78 = .ok (.iload 4, 2) := by decide +kernel
theorem dX5_move_80 : decode cX5_move 80 = .ok (.invokevirtual 152, 3) := by decide +kernel
theorem dX5_move_83 : decode cX5_move 83 = .ok (.aload_n 0, 1) := by decide +kernel
theorem dX5_move_84 : decode cX5_move 84 = .ok (.aload_n 3, 1) := by decide +kernel
theorem dX5_move_85 : decode cX5_move 85 = .ok (.iconst 1, 1) := by decide +kernel
theorem dX5_move_86 : decode cX5_move 86 = .ok (.invokevirtual 95, 3) := by decide +kernel
theorem dX5_move_89 : decode cX5_move 89 = .ok (.iload 4, 2) := by decide +kernel
theorem dX5_move_91 : decode cX5_move 91 = .ok (.ireturn, 1) := by decide +kernel
theorem dX5_reason_0 : decode cX5_reason 0 = .ok (.aload_n 0, 1) := by decide +kernel
theorem dX5_reason_1 : decode cX5_reason 1 = .ok (.iload_n 1, 1) := by decide +kernel
theorem dX5_reason_2 : decode cX5_reason 2 = .ok (.invokevirtual 99, 3) := by decide +kernel
theorem dX5_reason_5 : decode cX5_reason 5 = .ok (.astore_n 3, 1) := by decide +kernel
theorem dX5_reason_6 : decode cX5_reason 6 = .ok (.aload_n 0, 1) := by decide +kernel
theorem dX5_reason_7 : decode cX5_reason 7 = .ok (.iload_n 2, 1) := by decide +kernel
theorem dX5_reason_8 : decode cX5_reason 8 = .ok (.invokevirtual 52, 3) := by decide +kernel
theorem dX5_reason_11 : decode cX5_reason 11 = .ok (.astore 4, 2) := by decide +kernel
theorem dX5_reason_13 : decode cX5_reason 13 = .ok (.aload_n 3, 1) := by decide +kernel
theorem dX5_reason_14 : decode cX5_reason 14 = .ok (.getfield 146, 3) := by decide +kernel
theorem dX5_reason_17 : decode cX5_reason 17 = .ok (.invokevirtual 155, 3) := by decide +kernel
theorem dX5_reason_20 : decode cX5_reason 20 = .ok (.ifCond .eq 6, 3) := by decide +kernel
theorem dX5_reason_23 : decode cX5_reason 23 = .ok (.bipush 109, 2) := by decide +kernel
theorem dX5_reason_25 : decode cX5_reason 25 = .ok (.ireturn, 1) := by decide +kernel
theorem dX5_reason_26 : decode cX5_reason 26 = .ok (.aload_n 3, 1) := by decide +kernel
theorem dX5_reason_27 : decode cX5_reason 27 = .ok (.getfield 149, 3) := by decide +kernel
theorem dX5_reason_30 : decode cX5_reason 30 = .ok (.iload_n 2, 1) := by decide +kernel
theorem dX5_reason_31 : decode cX5_reason 31 = .ok (.if_icmp .ne 6, 3) := by decide +kernel
theorem dX5_reason_34 : decode cX5_reason 34 = .ok (.bipush 115, 2) := by decide +kernel
theorem dX5_reason_36 : decode cX5_reason 36 = .ok (.ireturn, 1) := by decide +kernel
theorem dX5_reason_37 : decode cX5_reason 37 = .ok (.aload 4, 2) := by decide +kernel
theorem dX5_reason_39 : decode cX5_reason 39 = .ok (.getfield 56, 3) := by decide +kernel
theorem dX5_reason_42 : decode cX5_reason 42 = .ok (.ifCond .ne 6, 3) := by decide +kernel
theorem dX5_reason_45 : decode cX5_reason 45 = .ok (.bipush 99, 2) := by decide +kernel
theorem dX5_reason_47 : decode cX5_reason 47 = .ok (.ireturn, 1) := by decide +kernel
theorem dX5_reason_48 : decode cX5_reason 48 = .ok (.aload_n 0, 1) := by decide +kernel
theorem dX5_reason_49 : decode cX5_reason 49 = .ok (.iload_n 2, 1) := by decide +kernel
theorem dX5_reason_50 : decode cX5_reason 50 = .ok (.aload_n 3, 1) := by decide +kernel
theorem dX5_reason_51 : decode cX5_reason 51 = .ok (.invokevirtual 159, 3) := by decide +kernel
theorem dX5_reason_54 : decode cX5_reason 54 = .ok (.ifCond .eq 6, 3) := by decide +kernel
theorem dX5_reason_57 : decode cX5_reason 57 = .ok (.bipush 112, 2) := by decide +kernel
theorem dX5_reason_59 : decode cX5_reason 59 = .ok (.ireturn, 1) := by decide +kernel
theorem dX5_reason_60 : decode cX5_reason 60 = .ok (.aload_n 3, 1) := by decide +kernel
theorem dX5_reason_61 : decode cX5_reason 61 = .ok (.getfield 103, 3) := by decide +kernel
theorem dX5_reason_64 : decode cX5_reason 64 = .ok (.astore 5, 2) := by decide +kernel
theorem dX5_reason_66 : decode cX5_reason 66 = .ok (.aload 4, 2) := by decide +kernel
theorem dX5_reason_68 : decode cX5_reason 68 = .ok (.aload 5, 2) := by decide +kernel
theorem dX5_reason_70 : decode cX5_reason 70 = .ok (.getfield 163, 3) := by decide +kernel
theorem dX5_reason_73 : decode cX5_reason 73 = .ok (.aload 5, 2) := by decide +kernel
theorem dX5_reason_75 : decode cX5_reason 75 = .ok (.getfield 166, 3) := by decide +kernel
theorem dX5_reason_78 : decode cX5_reason 78 = .ok (.aload 5, 2) := by decide +kernel
theorem dX5_reason_80 : decode cX5_reason 80 = .ok (.getfield 169, 3) := by decide +kernel
theorem dX5_reason_83 : decode cX5_reason 83 = .ok (.invokevirtual 78, 3) := by decide +kernel
theorem dX5_reason_86 : decode cX5_reason 86 = .ok (.ifCond .ne 6, 3) := by decide +kernel
theorem dX5_reason_89 : decode cX5_reason 89 = .ok (.bipush 114, 2) := by decide +kernel
theorem dX5_reason_91 : decode cX5_reason 91 = .ok (.ireturn, 1) := by decide +kernel
theorem dX5_reason_92 : decode cX5_reason 92 = .ok (.bipush 110, 2) := by decide +kernel
theorem dX5_reason_94 : decode cX5_reason 94 = .ok (.ireturn, 1) := by decide +kernel
theorem dX5_fail_0 : decode cX5_fail 0 = .ok (.aload_n 0, 1) := by decide +kernel
theorem dX5_fail_1 : decode cX5_fail 1 = .ok (.iload_n 1, 1) := by decide +kernel
theorem dX5_fail_2 : decode cX5_fail 2 = .ok (.invokevirtual 99, 3) := by decide +kernel
theorem dX5_fail_5 : decode cX5_fail 5 = .ok (.astore_n 2, 1) := by decide +kernel
theorem dX5_fail_6 : decode cX5_fail 6 = .ok (.aload_n 2, 1) := by decide +kernel
theorem dX5_fail_7 : decode cX5_fail 7 = .ok (.getfield 146, 3) := by decide +kernel
theorem dX5_fail_10 : decode cX5_fail 10 = .ok (.invokevirtual 155, 3) := by decide +kernel
theorem dX5_fail_13 : decode cX5_fail 13 = .ok (.ifCond .ne 13, 3) := by decide +kernel
theorem dX5_fail_16 : decode cX5_fail 16 = .ok (.new 43, 3) := by decide +kernel
theorem dX5_fail_19 : decode cX5_fail 19 = .ok (.dup, 1) := by decide +kernel
theorem dX5_fail_20 : decode cX5_fail 20 = .ok (.ldc 172, 2) := by decide +kernel
theorem dX5_fail_22 : decode cX5_fail 22 = .ok (.invokespecial 47, 3) := by decide +kernel
theorem dX5_fail_25 : decode cX5_fail 25 = .ok (.athrow, 1) := by decide +kernel
theorem dX5_fail_26 : decode cX5_fail 26 = .ok (.aload_n 2, 1) := by decide +kernel
theorem dX5_fail_27 : decode cX5_fail 27 = .ok (.getfield 146, 3) := by decide +kernel
theorem dX5_fail_30 : decode cX5_fail 30 = .ok (.invokevirtual 174, 3) := by decide +kernel
theorem dX5_fail_33 : decode cX5_fail 33 = .ok (.ifCond .eq 25, 3) := by decide +kernel
theorem dX5_fail_36 : decode cX5_fail 36 = .ok (.aload_n 0, 1) := by decide +kernel
theorem dX5_fail_37 : decode cX5_fail 37 = .ok (.aload_n 2, 1) := by decide +kernel
theorem dX5_fail_38 : decode cX5_fail 38 = .ok (.iconst (-1), 1) := by decide +kernel
theorem dX5_fail_39 : decode cX5_fail 39 = .ok (.invokevirtual 95, 3) := by decide +kernel
theorem dX5_fail_42 : decode cX5_fail 42 = .ok (.aload_n 2, 1) := by decide +kernel
theorem dX5_fail_43 : decode cX5_fail 43 = .ok (.getfield 146, 3) := by decide +kernel
theorem dX5_fail_46 : decode cX5_fail 46 = .ok (.invokevirtual 177, 3) := by decide +kernel
theorem dX5_fail_49 : decode cX5_fail 49 = .ok (.aload_n 0, 1) := by decide +kernel
theorem dX5_fail_50 : decode cX5_fail 50 = .ok (.aload_n 2, 1) := by decide +kernel
theorem dX5_fail_51 : decode cX5_fail 51 = .ok (.iconst 1, 1) := by decide +kernel
theorem dX5_fail_52 : decode cX5_fail 52 = .ok (.invokevirtual 95, 3) := by decide +kernel
theorem dX5_fail_55 : decode cX5_fail 55 = .ok (.bipush 101, 2) := by decide +kernel
theorem dX5_fail_57 : decode cX5_fail 57 = .ok (.ireturn, 1) := by decide +kernel
theorem dX5_fail_58 : decode cX5_fail 58 = .ok (.aload_n 0, 1) := by decide +kernel
theorem dX5_fail_59 : decode cX5_fail 59 = .ok (.aload_n 2, 1) := by decide +kernel
theorem dX5_fail_60 : decode cX5_fail 60 = .ok (.invokevirtual 180, 3) := by decide +kernel
theorem dX5_fail_63 : decode cX5_fail 63 = .ok (.ifCond .eq 11, 3) := by decide +kernel
theorem dX5_fail_66 : decode cX5_fail 66 = .ok (.aload_n 0, 1) := by decide +kernel
theorem dX5_fail_67 : decode cX5_fail 67 = .ok (.aload_n 2, 1) := by decide +kernel
theorem dX5_fail_68 : decode cX5_fail 68 = .ok (.invokevirtual 184, 3) := by decide +kernel
theorem dX5_fail_71 : decode cX5_fail 71 = .ok (.bipush 98, 2) := by decide +kernel
theorem dX5_fail_73 : decode cX5_fail 73 = .ok (.ireturn, 1) := by decide +kernel
theorem dX5_fail_74 : decode cX5_fail 74 = .ok (.aload_n 2, 1) := by decide +kernel
theorem dX5_fail_75 : decode cX5_fail 75 = .ok (.getfield 146, 3) := by decide +kernel
theorem dX5_fail_78 : decode cX5_fail 78 = .ok (.invokevirtual 188, 3) := by decide +kernel
theorem dX5_fail_81 : decode cX5_fail 81 = .ok (.bipush 97, 2) := by decide +kernel
theorem dX5_fail_83 : decode cX5_fail 83 = .ok (.ireturn, 1) := by decide +kernel
theorem dX5_pass_0 : decode cX5_pass 0 = .ok (.iload_n 1, 1) := by decide +kernel
theorem dX5_pass_1 : decode cX5_pass 1 = .ok (.iconst 1, 1) := by decide +kernel
theorem dX5_pass_2 : decode cX5_pass 2 = .ok (.bipush 48, 2) := by decide +kernel
theorem dX5_pass_4 : decode cX5_pass 4 = .ok (.invokestatic 35, 3) := by decide +kernel
theorem dX5_pass_7 : decode cX5_pass 7 = .ok (.iconst 0, 1) := by decide +kernel
theorem dX5_pass_8 : decode cX5_pass 8 = .ok (.istore_n 2, 1) := by decide +kernel
theorem dX5_pass_9 : decode cX5_pass 9 = .ok (.iconst 0, 1) := by decide +kernel
theorem dX5_pass_10 : decode cX5_pass 10 = .ok (.istore_n 3, 1) := by decide +kernel
theorem dX5_pass_11 : decode cX5_pass 11 = .ok (.iload_n 3, 1) := by decide +kernel
theorem dX5_pass_12 : decode cX5_pass 12 = .ok (.iload_n 1, 1) := by decide +kernel
theorem dX5_pass_13 : decode cX5_pass 13 = .ok (.if_icmp .ge 44, 3) := by decide +kernel
theorem dX5_pass_16 : decode cX5_pass 16 = .ok (.aload_n 0, 1) := by decide +kernel
theorem dX5_pass_17 : decode cX5_pass 17 = .ok (.invokevirtual 191, 3) := by decide +kernel
theorem dX5_pass_20 : decode cX5_pass 20 = .ok (.iload_n 2, 1) := by decide +kernel
theorem dX5_pass_21 : decode cX5_pass 21 = .ok (.aload_n 0, 1) := by decide +kernel
theorem dX5_pass_22 : decode cX5_pass 22 = .ok (.invokevirtual 194, 3) := by decide +kernel
theorem dX5_pass_25 : decode cX5_pass 25 = .ok (.iadd, 1) := by decide +kernel
theorem dX5_pass_26 : decode cX5_pass 26 = .ok (.istore_n 2, 1) := by decide +kernel
theorem dX5_pass_27 : decode cX5_pass 27 = .ok (.aload_n 0, 1) := by decide +kernel
theorem dX5_pass_28 : decode cX5_pass 28 = .ok (.dup, 1) := by decide +kernel
theorem dX5_pass_29 : decode cX5_pass 29 = .ok (.getfield 197, 3) := by decide +kernel
theorem dX5_pass_32 : decode cX5_pass 32 = .ok (.iconst 1, 1) := by decide +kernel
theorem dX5_pass_33 : decode cX5_pass 33 = .ok (.iadd, 1) := by decide +kernel
theorem dX5_pass_34 : decode cX5_pass 34 = .ok (.putfield 197, 3) := by decide +kernel
theorem dX5_pass_37 : decode cX5_pass 37 = .ok (.aload_n 0, 1) := by decide +kernel
theorem dX5_pass_38 : decode cX5_pass 38 = .ok (.getfield 197, 3) := by decide +kernel
theorem dX5_pass_41 : decode cX5_pass 41 = .ok (.invokestatic 200, 3) := by decide +kernel
theorem dX5_pass_44 : decode cX5_pass 44 = .ok (.ifCond .ne 7, 3) := by decide +kernel
theorem dX5_pass_47 : decode cX5_pass 47 = .ok (.aload_n 0, 1) := by decide +kernel
theorem dX5_pass_48 : decode cX5_pass 48 = .ok (.invokevirtual 203, 3) := by decide +kernel
theorem dX5_pass_51 : decode cX5_pass 51 = .ok (.iinc 3 1, 3) := by decide +kernel
theorem dX5_pass_54 : decode cX5_pass 54 = .ok (.goto (-43), 3) := by decide +kernel
theorem dX5_pass_57 : decode cX5_pass 57 = .ok (.iload_n 2, 1) := by decide +kernel
theorem dX5_pass_58 : decode cX5_pass 58 = .ok (.ireturn, 1) := by decide +kernel
theorem dX5_time_0 : decode cX5_time 0 = .ok (.aload_n 0, 1) := by decide +kernel
theorem dX5_time_1 : decode cX5_time 1 = .ok (.getfield 197, 3) := by decide +kernel
theorem dX5_time_4 : decode cX5_time 4 = .ok (.ireturn, 1) := by decide +kernel
theorem dX5_phase_0 : decode cX5_phase 0 = .ok (.aload_n 0, 1) := by decide +kernel
theorem dX5_phase_1 : decode cX5_phase 1 = .ok (.iload_n 1, 1) := by decide +kernel
theorem dX5_phase_2 : decode cX5_phase 2 = .ok (.invokevirtual 99, 3) := by decide +kernel
theorem dX5_phase_5 : decode cX5_phase 5 = .ok (.getfield 146, 3) := by decide +kernel
theorem dX5_phase_8 : decode cX5_phase 8 = .ok (.getfield 206, 3) := by decide +kernel
theorem dX5_phase_11 : decode cX5_phase 11 = .ok (.ireturn, 1) := by decide +kernel
theorem dX5_targetOf_0 : decode cX5_targetOf 0 = .ok (.aload_n 0, 1) := by decide +kernel
theorem dX5_targetOf_1 : decode cX5_targetOf 1 = .ok (.iload_n 1, 1) := by decide +kernel
theorem dX5_targetOf_2 : decode cX5_targetOf 2 = .ok (.invokevirtual 210, 3) := by decide +kernel
theorem dX5_targetOf_5 : decode cX5_targetOf 5 = .ok (.getfield 146, 3) := by decide +kernel
theorem dX5_targetOf_8 : decode cX5_targetOf 8 = .ok (.getfield 213, 3) := by decide +kernel
theorem dX5_targetOf_11 : decode cX5_targetOf 11 = .ok (.ireturn, 1) := by decide +kernel
theorem dX5_hoursLeft_0 : decode cX5_hoursLeft 0 = .ok (.aload_n 0, 1) := by decide +kernel
theorem dX5_hoursLeft_1 : decode cX5_hoursLeft 1 = .ok (.iload_n 1, 1) := by decide +kernel
theorem dX5_hoursLeft_2 : decode cX5_hoursLeft 2 = .ok (.invokevirtual 210, 3) := by decide +kernel
theorem dX5_hoursLeft_5 : decode cX5_hoursLeft 5 = .ok (.astore_n 2, 1) := by decide +kernel
theorem dX5_hoursLeft_6 : decode cX5_hoursLeft 6 = .ok (.aload_n 2, 1) := by decide +kernel
theorem dX5_hoursLeft_7 : decode cX5_hoursLeft 7 = .ok (.getfield 146, 3) := by decide +kernel
theorem dX5_hoursLeft_10 : decode cX5_hoursLeft 10 = .ok (.getfield 216, 3) := by decide +kernel
theorem dX5_hoursLeft_13 : decode cX5_hoursLeft 13 = .ok (.istore_n 3, 1) := by decide +kernel
theorem dX5_hoursLeft_14 : decode cX5_hoursLeft 14 = .ok (.aload_n 2, 1) := by decide +kernel
theorem dX5_hoursLeft_15 : decode cX5_hoursLeft 15 = .ok (.getfield 146, 3) := by decide +kernel
theorem dX5_hoursLeft_18 : decode cX5_hoursLeft 18 = .ok (.invokevirtual 174, 3) := by decide +kernel
theorem dX5_hoursLeft_21 : decode cX5_hoursLeft 21 = .ok (.ifCond .ne 5, 3) := by decide +kernel
theorem dX5_hoursLeft_24 : decode cX5_hoursLeft 24 = .ok (.iload_n 3, 1) := by decide +kernel
theorem dX5_hoursLeft_25 : decode cX5_hoursLeft 25 = .ok (.ireturn, 1) := by decide +kernel
theorem dX5_hoursLeft_26 : decode cX5_hoursLeft 26 = .ok (.aload_n 2, 1) := by decide +kernel
theorem dX5_hoursLeft_27 : decode cX5_hoursLeft 27 = .ok (.aload_n 0, 1) := by decide +kernel
theorem dX5_hoursLeft_28 : decode cX5_hoursLeft 28 = .ok (.getfield 197, 3) := by decide +kernel
theorem dX5_hoursLeft_31 : decode cX5_hoursLeft 31 = .ok (.iload_n 3, 1) := by decide +kernel
theorem dX5_hoursLeft_32 : decode cX5_hoursLeft 32 = .ok (.iadd, 1) := by decide +kernel
theorem dX5_hoursLeft_33 : decode cX5_hoursLeft 33 = .ok (.invokestatic 200, 3) := by decide +kernel
theorem dX5_hoursLeft_36 : decode cX5_hoursLeft 36 = .ok (.invokevirtual 219, 3) := by decide +kernel
theorem dX5_hoursLeft_39 : decode cX5_hoursLeft 39 = .ok (.istore 4, 2) := by decide +kernel
theorem dX5_hoursLeft_41 : decode cX5_hoursLeft 41 = .ok (.iload_n 3, 1) := by decide +kernel
theorem dX5_hoursLeft_42 : decode cX5_hoursLeft 42 = .ok (.iload 4, 2) := by decide +kernel
theorem dX5_hoursLeft_44 : decode cX5_hoursLeft 44 = .ok (.iadd, 1) := by decide +kernel
theorem dX5_hoursLeft_45 : decode cX5_hoursLeft 45 = .ok (.iconst 1, 1) := by decide +kernel
theorem dX5_hoursLeft_46 : decode cX5_hoursLeft 46 = .ok (.iadd, 1) := by decide +kernel
theorem dX5_hoursLeft_47 : decode cX5_hoursLeft 47 = .ok (.iconst 2, 1) := by decide +kernel
theorem dX5_hoursLeft_48 : decode cX5_hoursLeft 48 = .ok (.iadd, 1) := by decide +kernel
theorem dX5_hoursLeft_49 : decode cX5_hoursLeft 49 = .ok (.ireturn, 1) := by decide +kernel
theorem dX5_hoursByPassing_0 : decode cX5_hoursByPassing 0 = .ok (.aload_n 0, 1) := by decide +kernel
theorem dX5_hoursByPassing_1 : decode cX5_hoursByPassing 1 = .ok (.iload_n 1, 1) := by decide +kernel
theorem dX5_hoursByPassing_2 : decode cX5_hoursByPassing 2 = .ok (.invokevirtual 210, 3) := by decide +kernel
theorem dX5_hoursByPassing_5 : decode cX5_hoursByPassing 5 = .ok (.astore_n 2, 1) := by decide +kernel
theorem dX5_hoursByPassing_6 : decode cX5_hoursByPassing 6 = .ok (.aload_n 0, 1) := by decide +kernel
theorem dX5_hoursByPassing_7 : decode cX5_hoursByPassing 7 = .ok (.getfield 31, 3) := by decide +kernel
theorem dX5_hoursByPassing_10 : decode cX5_hoursByPassing 10 = .ok (.aload_n 2, 1) := by decide +kernel
theorem dX5_hoursByPassing_11 : decode cX5_hoursByPassing 11 = .ok (.getfield 146, 3) := by decide +kernel
theorem dX5_hoursByPassing_14 : decode cX5_hoursByPassing 14 = .ok (.invokevirtual 222, 3) := by decide +kernel
theorem dX5_hoursByPassing_17 : decode cX5_hoursByPassing 17 = .ok (.iconst 0, 1) := by decide +kernel
theorem dX5_hoursByPassing_18 : decode cX5_hoursByPassing 18 = .ok (.istore_n 3, 1) := by decide +kernel
theorem dX5_hoursByPassing_19 : decode cX5_hoursByPassing 19 = .ok (.iload_n 3, 1) := by decide +kernel
theorem dX5_hoursByPassing_20 : decode cX5_hoursByPassing 20 = .ok (.sipush 1000, 3) := by decide +kernel
theorem dX5_hoursByPassing_23 : decode cX5_hoursByPassing 23 = .ok (.if_icmp .ge 40, 3) := by decide +kernel
theorem dX5_hoursByPassing_26 : decode cX5_hoursByPassing 26 = .ok (.aload_n 0, 1) := by decide +kernel
theorem dX5_hoursByPassing_27 : decode cX5_hoursByPassing 27 = .ok (.getfield 31, 3) := by decide +kernel
theorem dX5_hoursByPassing_30 : decode cX5_hoursByPassing 30 = .ok (.invokevirtual 155, 3) := by decide +kernel
theorem dX5_hoursByPassing_33 : decode cX5_hoursByPassing 33 = .ok (.ifCond .eq 30, 3) := by decide +kernel
theorem dX5_hoursByPassing_36 : decode cX5_hoursByPassing 36 = .ok (.aload_n 0, 1) := by decide +kernel
theorem dX5_hoursByPassing_37 : decode cX5_hoursByPassing 37 = .ok (.getfield 31, 3) := by decide +kernel
theorem dX5_hoursByPassing_40 : decode cX5_hoursByPassing 40 = .ok (.aload_n 2, 1) := by decide +kernel
theorem dX5_hoursByPassing_41 : decode cX5_hoursByPassing 41 = .ok (.aload_n 0, 1) := by decide +kernel
theorem dX5_hoursByPassing_42 : decode cX5_hoursByPassing 42 = .ok (.getfield 197, 3) := by decide +kernel
theorem dX5_hoursByPassing_45 : decode cX5_hoursByPassing 45 = .ok (.iload_n 3, 1) := by decide +kernel
theorem dX5_hoursByPassing_46 : decode cX5_hoursByPassing 46 = .ok (.iadd, 1) := by decide +kernel
theorem dX5_hoursByPassing_47 : decode cX5_hoursByPassing 47 = .ok (.invokestatic 200, 3) := by decide +kernel
theorem dX5_hoursByPassing_50 : decode cX5_hoursByPassing 50 = .ok (.invokevirtual 226, 3) := by decide +kernel
theorem dX5_hoursByPassing_53 : decode cX5_hoursByPassing 53 = .ok (.invokevirtual 229, 3) := by decide +kernel
theorem dX5_hoursByPassing_56 : decode cX5_hoursByPassing 56 = .ok (.pop, 1) := by decide +kernel
theorem dX5_hoursByPassing_57 : decode cX5_hoursByPassing 57 = .ok (.iinc 3 1, 3) := by decide +kernel
theorem dX5_hoursByPassing_60 : decode cX5_hoursByPassing 60 = .ok (.goto (-41), 3) := by decide +kernel
theorem dX5_hoursByPassing_63 : decode cX5_hoursByPassing 63 = .ok (.iload_n 3, 1) := by decide +kernel
theorem dX5_hoursByPassing_64 : decode cX5_hoursByPassing 64 = .ok (.ireturn, 1) := by decide +kernel
theorem dX5_moves_0 : decode cX5_moves 0 = .ok (.iconst 0, 1) := by decide +kernel
theorem dX5_moves_1 : decode cX5_moves 1 = .ok (.istore_n 1, 1) := by decide +kernel
theorem dX5_moves_2 : decode cX5_moves 2 = .ok (.aload_n 0, 1) := by decide +kernel
theorem dX5_moves_3 : decode cX5_moves 3 = .ok (.getfield 17, 3) := by decide +kernel
theorem dX5_moves_6 : decode cX5_moves 6 = .ok (.astore_n 2, 1) := by decide +kernel
theorem dX5_moves_7 : decode cX5_moves 7 = .ok (.aload_n 2, 1) := by decide +kernel
theorem dX5_moves_8 : decode cX5_moves 8 = .ok (.arraylength, 1) := by decide +kernel
theorem dX5_moves_9 : decode cX5_moves 9 = .ok (.istore_n 3, 1) := by decide +kernel
theorem dX5_moves_10 : decode cX5_moves 10 = .ok (.iconst 0, 1) := by decide +kernel
theorem dX5_moves_11 : decode cX5_moves 11 = .ok (.istore 4, 2) := by decide +kernel
theorem dX5_moves_13 : decode cX5_moves 13 = .ok (.iload 4, 2) := by decide +kernel
theorem dX5_moves_15 : decode cX5_moves 15 = .ok (.iload_n 3, 1) := by decide +kernel
theorem dX5_moves_16 : decode cX5_moves 16 = .ok (.if_icmp .ge 34, 3) := by decide +kernel
theorem dX5_moves_19 : decode cX5_moves 19 = .ok (.aload_n 2, 1) := by decide +kernel
theorem dX5_moves_20 : decode cX5_moves 20 = .ok (.iload 4, 2) := by decide +kernel
theorem dX5_moves_22 : decode cX5_moves 22 = .ok (.aaload, 1) := by decide +kernel
theorem dX5_moves_23 : decode cX5_moves 23 = .ok (.astore 5, 2) := by decide +kernel
theorem dX5_moves_25 : decode cX5_moves 25 = .ok (.aload 5, 2) := by decide +kernel
theorem dX5_moves_27 : decode cX5_moves 27 = .ok (.ifnull 17, 3) := by decide +kernel
theorem dX5_moves_30 : decode cX5_moves 30 = .ok (.aload 5, 2) := by decide +kernel
theorem dX5_moves_32 : decode cX5_moves 32 = .ok (.getfield 146, 3) := by decide +kernel
theorem dX5_moves_35 : decode cX5_moves 35 = .ok (.invokevirtual 155, 3) := by decide +kernel
theorem dX5_moves_38 : decode cX5_moves 38 = .ok (.ifCond .eq 6, 3) := by decide +kernel
theorem dX5_moves_41 : decode cX5_moves 41 = .ok (.iinc 1 1, 3) := by decide +kernel
theorem dX5_moves_44 : decode cX5_moves 44 = .ok (.iinc 4 1, 3) := by decide +kernel
theorem dX5_moves_47 : decode cX5_moves 47 = .ok (.goto (-34), 3) := by decide +kernel
theorem dX5_moves_50 : decode cX5_moves 50 = .ok (.iload_n 1, 1) := by decide +kernel
theorem dX5_moves_51 : decode cX5_moves 51 = .ok (.ireturn, 1) := by decide +kernel
theorem dX5_shards_0 : decode cX5_shards 0 = .ok (.iconst 0, 1) := by decide +kernel
theorem dX5_shards_1 : decode cX5_shards 1 = .ok (.istore_n 1, 1) := by decide +kernel
theorem dX5_shards_2 : decode cX5_shards 2 = .ok (.aload_n 0, 1) := by decide +kernel
theorem dX5_shards_3 : decode cX5_shards 3 = .ok (.getfield 11, 3) := by decide +kernel
theorem dX5_shards_6 : decode cX5_shards 6 = .ok (.astore_n 2, 1) := by decide +kernel
theorem dX5_shards_7 : decode cX5_shards 7 = .ok (.aload_n 2, 1) := by decide +kernel
theorem dX5_shards_8 : decode cX5_shards 8 = .ok (.arraylength, 1) := by decide +kernel
theorem dX5_shards_9 : decode cX5_shards 9 = .ok (.istore_n 3, 1) := by decide +kernel
theorem dX5_shards_10 : decode cX5_shards 10 = .ok (.iconst 0, 1) := by decide +kernel
theorem dX5_shards_11 : decode cX5_shards 11 = .ok (.istore 4, 2) := by decide +kernel
theorem dX5_shards_13 : decode cX5_shards 13 = .ok (.iload 4, 2) := by decide +kernel
theorem dX5_shards_15 : decode cX5_shards 15 = .ok (.iload_n 3, 1) := by decide +kernel
theorem dX5_shards_16 : decode cX5_shards 16 = .ok (.if_icmp .ge 23, 3) := by decide +kernel
theorem dX5_shards_19 : decode cX5_shards 19 = .ok (.aload_n 2, 1) := by decide +kernel
theorem dX5_shards_20 : decode cX5_shards 20 = .ok (.iload 4, 2) := by decide +kernel
theorem dX5_shards_22 : decode cX5_shards 22 = .ok (.aaload, 1) := by decide +kernel
theorem dX5_shards_23 : decode cX5_shards 23 = .ok (.astore 5, 2) := by decide +kernel
theorem dX5_shards_25 : decode cX5_shards 25 = .ok (.aload 5, 2) := by decide +kernel
theorem dX5_shards_27 : decode cX5_shards 27 = .ok (.ifnull 6, 3) := by decide +kernel
theorem dX5_shards_30 : decode cX5_shards 30 = .ok (.iinc 1 1, 3) := by decide +kernel
theorem dX5_shards_33 : decode cX5_shards 33 = .ok (.iinc 4 1, 3) := by decide +kernel
theorem dX5_shards_36 : decode cX5_shards 36 = .ok (.goto (-23), 3) := by decide +kernel
theorem dX5_shards_39 : decode cX5_shards 39 = .ok (.iload_n 1, 1) := by decide +kernel
theorem dX5_shards_40 : decode cX5_shards 40 = .ok (.ireturn, 1) := by decide +kernel
theorem dX5_tenants_0 : decode cX5_tenants 0 = .ok (.iconst 0, 1) := by decide +kernel
theorem dX5_tenants_1 : decode cX5_tenants 1 = .ok (.istore_n 1, 1) := by decide +kernel
theorem dX5_tenants_2 : decode cX5_tenants 2 = .ok (.aload_n 0, 1) := by decide +kernel
theorem dX5_tenants_3 : decode cX5_tenants 3 = .ok (.getfield 17, 3) := by decide +kernel
theorem dX5_tenants_6 : decode cX5_tenants 6 = .ok (.astore_n 2, 1) := by decide +kernel
theorem dX5_tenants_7 : decode cX5_tenants 7 = .ok (.aload_n 2, 1) := by decide +kernel
theorem dX5_tenants_8 : decode cX5_tenants 8 = .ok (.arraylength, 1) := by decide +kernel
theorem dX5_tenants_9 : decode cX5_tenants 9 = .ok (.istore_n 3, 1) := by decide +kernel
theorem dX5_tenants_10 : decode cX5_tenants 10 = .ok (.iconst 0, 1) := by decide +kernel
theorem dX5_tenants_11 : decode cX5_tenants 11 = .ok (.istore 4, 2) := by decide +kernel
theorem dX5_tenants_13 : decode cX5_tenants 13 = .ok (.iload 4, 2) := by decide +kernel
theorem dX5_tenants_15 : decode cX5_tenants 15 = .ok (.iload_n 3, 1) := by decide +kernel
theorem dX5_tenants_16 : decode cX5_tenants 16 = .ok (.if_icmp .ge 23, 3) := by decide +kernel
theorem dX5_tenants_19 : decode cX5_tenants 19 = .ok (.aload_n 2, 1) := by decide +kernel
theorem dX5_tenants_20 : decode cX5_tenants 20 = .ok (.iload 4, 2) := by decide +kernel
theorem dX5_tenants_22 : decode cX5_tenants 22 = .ok (.aaload, 1) := by decide +kernel
theorem dX5_tenants_23 : decode cX5_tenants 23 = .ok (.astore 5, 2) := by decide +kernel
theorem dX5_tenants_25 : decode cX5_tenants 25 = .ok (.aload 5, 2) := by decide +kernel
theorem dX5_tenants_27 : decode cX5_tenants 27 = .ok (.ifnull 6, 3) := by decide +kernel
theorem dX5_tenants_30 : decode cX5_tenants 30 = .ok (.iinc 1 1, 3) := by decide +kernel
theorem dX5_tenants_33 : decode cX5_tenants 33 = .ok (.iinc 4 1, 3) := by decide +kernel
theorem dX5_tenants_36 : decode cX5_tenants 36 = .ok (.goto (-23), 3) := by decide +kernel
theorem dX5_tenants_39 : decode cX5_tenants 39 = .ok (.iload_n 1, 1) := by decide +kernel
theorem dX5_tenants_40 : decode cX5_tenants 40 = .ok (.ireturn, 1) := by decide +kernel
theorem dX5_servedBy_0 : decode cX5_servedBy 0 = .ok (.aload_n 0, 1) := by decide +kernel
theorem dX5_servedBy_1 : decode cX5_servedBy 1 = .ok (.iload_n 1, 1) := by decide +kernel
theorem dX5_servedBy_2 : decode cX5_servedBy 2 = .ok (.invokevirtual 99, 3) := by decide +kernel
theorem dX5_servedBy_5 : decode cX5_servedBy 5 = .ok (.getfield 149, 3) := by decide +kernel
theorem dX5_servedBy_8 : decode cX5_servedBy 8 = .ok (.ireturn, 1) := by decide +kernel
theorem dX5_sizeOf_0 : decode cX5_sizeOf 0 = .ok (.aload_n 0, 1) := by decide +kernel
theorem dX5_sizeOf_1 : decode cX5_sizeOf 1 = .ok (.iload_n 1, 1) := by decide +kernel
theorem dX5_sizeOf_2 : decode cX5_sizeOf 2 = .ok (.invokevirtual 99, 3) := by decide +kernel
theorem dX5_sizeOf_5 : decode cX5_sizeOf 5 = .ok (.astore_n 3, 1) := by decide +kernel
theorem dX5_sizeOf_6 : decode cX5_sizeOf 6 = .ok (.iload_n 2, 1) := by decide +kernel
theorem dX5_sizeOf_7 : decode cX5_sizeOf 7 = .ok (.invokestatic 60, 3) := by decide +kernel
theorem dX5_sizeOf_10 : decode cX5_sizeOf 10 = .ok (.aload_n 3, 1) := by decide +kernel
theorem dX5_sizeOf_11 : decode cX5_sizeOf 11 = .ok (.getfield 103, 3) := by decide +kernel
theorem dX5_sizeOf_14 : decode cX5_sizeOf 14 = .ok (.iload_n 2, 1) := by decide +kernel
theorem dX5_sizeOf_15 : decode cX5_sizeOf 15 = .ok (.invokevirtual 68, 3) := by decide +kernel
theorem dX5_sizeOf_18 : decode cX5_sizeOf 18 = .ok (.ireturn, 1) := by decide +kernel
theorem dX5_used_0 : decode cX5_used 0 = .ok (.aload_n 0, 1) := by decide +kernel
theorem dX5_used_1 : decode cX5_used 1 = .ok (.iload_n 1, 1) := by decide +kernel
theorem dX5_used_2 : decode cX5_used 2 = .ok (.invokevirtual 52, 3) := by decide +kernel
theorem dX5_used_5 : decode cX5_used 5 = .ok (.astore_n 3, 1) := by decide +kernel
theorem dX5_used_6 : decode cX5_used 6 = .ok (.iload_n 2, 1) := by decide +kernel
theorem dX5_used_7 : decode cX5_used 7 = .ok (.invokestatic 60, 3) := by decide +kernel
theorem dX5_used_10 : decode cX5_used 10 = .ok (.aload_n 3, 1) := by decide +kernel
theorem dX5_used_11 : decode cX5_used 11 = .ok (.getfield 233, 3) := by decide +kernel
theorem dX5_used_14 : decode cX5_used 14 = .ok (.iload_n 2, 1) := by decide +kernel
theorem dX5_used_15 : decode cX5_used 15 = .ok (.invokevirtual 68, 3) := by decide +kernel
theorem dX5_used_18 : decode cX5_used 18 = .ok (.ireturn, 1) := by decide +kernel
theorem dX5_usedByLooking_0 : decode cX5_usedByLooking 0 = .ok (.aload_n 0, 1) := by decide +kernel
theorem dX5_usedByLooking_1 : decode cX5_usedByLooking 1 = .ok (.iload_n 1, 1) := by decide +kernel
theorem dX5_usedByLooking_2 : decode cX5_usedByLooking 2 = .ok (.invokevirtual 52, 3) := by decide +kernel
theorem dX5_usedByLooking_5 : decode cX5_usedByLooking 5 = .ok (.pop, 1) := by decide +kernel
theorem dX5_usedByLooking_6 : decode cX5_usedByLooking 6 = .ok (.iload_n 2, 1) := by decide +kernel
theorem dX5_usedByLooking_7 : decode cX5_usedByLooking 7 = .ok (.invokestatic 60, 3) := by decide +kernel
theorem dX5_usedByLooking_10 : decode cX5_usedByLooking 10 = .ok (.iconst 0, 1) := by decide +kernel
theorem dX5_usedByLooking_11 : decode cX5_usedByLooking 11 = .ok (.istore_n 3, 1) := by decide +kernel
theorem dX5_usedByLooking_12 : decode cX5_usedByLooking 12 = .ok (.aload_n 0, 1) := by decide +kernel
theorem dX5_usedByLooking_13 : decode cX5_usedByLooking 13 = .ok (.getfield 17, 3) := by decide +kernel
theorem dX5_usedByLooking_16 : decode cX5_usedByLooking 16 = .ok (.astore 4, 2) := by decide +kernel
theorem dX5_usedByLooking_18 : decode cX5_usedByLooking 18 = .ok (.aload 4, 2) := by decide +kernel
theorem dX5_usedByLooking_20 : decode cX5_usedByLooking 20 = .ok (.arraylength, 1) := by decide +kernel
theorem dX5_usedByLooking_21 : decode cX5_usedByLooking 21 = .ok (.istore 5, 2) := by decide +kernel
theorem dX5_usedByLooking_23 : decode cX5_usedByLooking 23 = .ok (.iconst 0, 1) := by decide +kernel
theorem dX5_usedByLooking_24 : decode cX5_usedByLooking 24 = .ok (.istore 6, 2) := by decide +kernel
theorem dX5_usedByLooking_26 : decode cX5_usedByLooking 26 = .ok (.iload 6, 2) := by decide +kernel
theorem dX5_usedByLooking_28 : decode cX5_usedByLooking 28 = .ok (.iload 5, 2) := by decide +kernel
theorem dX5_usedByLooking_30 : decode cX5_usedByLooking 30 = .ok (.if_icmp .ge 31, 3) := by decide +kernel
theorem dX5_usedByLooking_33 : decode cX5_usedByLooking 33 = .ok (.aload 4, 2) := by decide +kernel
theorem dX5_usedByLooking_35 : decode cX5_usedByLooking 35 = .ok (.iload 6, 2) := by decide +kernel
theorem dX5_usedByLooking_37 : decode cX5_usedByLooking 37 = .ok (.aaload, 1) := by decide +kernel
theorem dX5_usedByLooking_38 : decode cX5_usedByLooking 38 = .ok (.astore 7, 2) := by decide +kernel
theorem dX5_usedByLooking_40 : decode cX5_usedByLooking 40 = .ok (.aload 7, 2) := by decide +kernel
theorem dX5_usedByLooking_42 : decode cX5_usedByLooking 42 = .ok (.ifnull 13, 3) := by decide +kernel
theorem dX5_usedByLooking_45 : decode cX5_usedByLooking 45 = .ok (.iload_n 3, 1) := by decide +kernel
theorem dX5_usedByLooking_46 : decode cX5_usedByLooking 46 = .ok (.aload 7, 2) := by decide +kernel
theorem dX5_usedByLooking_48 : decode cX5_usedByLooking 48 = .ok (.iload_n 1, 1) := by decide +kernel
theorem dX5_usedByLooking_49 : decode cX5_usedByLooking 49 = .ok (.iload_n 2, 1) := by decide +kernel
theorem dX5_usedByLooking_50 : decode cX5_usedByLooking 50 = .ok (.invokevirtual 236, 3) := by decide +kernel
theorem dX5_usedByLooking_53 : decode cX5_usedByLooking 53 = .ok (.iadd, 1) := by decide +kernel
theorem dX5_usedByLooking_54 : decode cX5_usedByLooking 54 = .ok (.istore_n 3, 1) := by decide +kernel
theorem dX5_usedByLooking_55 : decode cX5_usedByLooking 55 = .ok (.iinc 6 1, 3) := by decide +kernel
theorem dX5_usedByLooking_58 : decode cX5_usedByLooking 58 = .ok (.goto (-32), 3) := by decide +kernel
theorem dX5_usedByLooking_61 : decode cX5_usedByLooking 61 = .ok (.iload_n 3, 1) := by decide +kernel
theorem dX5_usedByLooking_62 : decode cX5_usedByLooking 62 = .ok (.ireturn, 1) := by decide +kernel
theorem dX5_isOver_0 : decode cX5_isOver 0 = .ok (.aload_n 0, 1) := by decide +kernel
theorem dX5_isOver_1 : decode cX5_isOver 1 = .ok (.iload_n 1, 1) := by decide +kernel
theorem dX5_isOver_2 : decode cX5_isOver 2 = .ok (.invokevirtual 52, 3) := by decide +kernel
theorem dX5_isOver_5 : decode cX5_isOver 5 = .ok (.invokevirtual 240, 3) := by decide +kernel
theorem dX5_isOver_8 : decode cX5_isOver 8 = .ok (.ireturn, 1) := by decide +kernel
theorem dX5_served_0 : decode cX5_served 0 = .ok (.aload_n 0, 1) := by decide +kernel
theorem dX5_served_1 : decode cX5_served 1 = .ok (.iload_n 1, 1) := by decide +kernel
theorem dX5_served_2 : decode cX5_served 2 = .ok (.invokevirtual 52, 3) := by decide +kernel
theorem dX5_served_5 : decode cX5_served 5 = .ok (.pop, 1) := by decide +kernel
theorem dX5_served_6 : decode cX5_served 6 = .ok (.iconst 0, 1) := by decide +kernel
theorem dX5_served_7 : decode cX5_served 7 = .ok (.istore_n 2, 1) := by decide +kernel
theorem dX5_served_8 : decode cX5_served 8 = .ok (.aload_n 0, 1) := by decide +kernel
theorem dX5_served_9 : decode cX5_served 9 = .ok (.getfield 17, 3) := by decide +kernel
theorem dX5_served_12 : decode cX5_served 12 = .ok (.astore_n 3, 1) := by decide +kernel
theorem dX5_served_13 : decode cX5_served 13 = .ok (.aload_n 3, 1) := by decide +kernel
theorem dX5_served_14 : decode cX5_served 14 = .ok (.arraylength, 1) := by decide +kernel
theorem dX5_served_15 : decode cX5_served 15 = .ok (.istore 4, 2) := by decide +kernel
theorem dX5_served_17 : decode cX5_served 17 = .ok (.iconst 0, 1) := by decide +kernel
theorem dX5_served_18 : decode cX5_served 18 = .ok (.istore 5, 2) := by decide +kernel
theorem dX5_served_20 : decode cX5_served 20 = .ok (.iload 5, 2) := by decide +kernel
theorem dX5_served_22 : decode cX5_served 22 = .ok (.iload 4, 2) := by decide +kernel
theorem dX5_served_24 : decode cX5_served 24 = .ok (.if_icmp .ge 32, 3) := by decide +kernel
theorem dX5_served_27 : decode cX5_served 27 = .ok (.aload_n 3, 1) := by decide +kernel
theorem dX5_served_28 : decode cX5_served 28 = .ok (.iload 5, 2) := by decide +kernel
theorem dX5_served_30 : decode cX5_served 30 = .ok (.aaload, 1) := by decide +kernel
theorem dX5_served_31 : decode cX5_served 31 = .ok (.astore 6, 2) := by decide +kernel
theorem dX5_served_33 : decode cX5_served 33 = .ok (.aload 6, 2) := by decide +kernel
theorem dX5_served_35 : decode cX5_served 35 = .ok (.ifnull 15, 3) := by decide +kernel
theorem dX5_served_38 : decode cX5_served 38 = .ok (.aload 6, 2) := by decide +kernel
theorem dX5_served_40 : decode cX5_served 40 = .ok (.getfield 149, 3) := by decide +kernel
theorem dX5_served_43 : decode cX5_served 43 = .ok (.iload_n 1, 1) := by decide +kernel
theorem dX5_served_44 : decode cX5_served 44 = .ok (.if_icmp .ne 6, 3) := by decide +kernel
theorem dX5_served_47 : decode cX5_served 47 = .ok (.iinc 2 1, 3) := by decide +kernel
theorem dX5_served_50 : decode cX5_served 50 = .ok (.iinc 5 1, 3) := by decide +kernel
theorem dX5_served_53 : decode cX5_served 53 = .ok (.goto (-33), 3) := by decide +kernel
theorem dX5_served_56 : decode cX5_served 56 = .ok (.iload_n 2, 1) := by decide +kernel
theorem dX5_served_57 : decode cX5_served 57 = .ok (.ireturn, 1) := by decide +kernel
theorem dX5_fewestMoves_0 : decode cX5_fewestMoves 0 = .ok (.aload_n 0, 1) := by decide +kernel
theorem dX5_fewestMoves_1 : decode cX5_fewestMoves 1 = .ok (.getfield 24, 3) := by decide +kernel
theorem dX5_fewestMoves_4 : decode cX5_fewestMoves 4 = .ok (.aload_n 0, 1) := by decide +kernel
theorem dX5_fewestMoves_5 : decode cX5_fewestMoves 5 = .ok (.getfield 11, 3) := by decide +kernel
theorem dX5_fewestMoves_8 : decode cX5_fewestMoves 8 = .ok (.aload_n 0, 1) := by decide +kernel
theorem dX5_fewestMoves_9 : decode cX5_fewestMoves 9 = .ok (.getfield 17, 3) := by decide +kernel
theorem dX5_fewestMoves_12 : decode cX5_fewestMoves 12 = .ok (.invokevirtual 243, 3) := by decide +kernel
theorem dX5_fewestMoves_15 : decode cX5_fewestMoves 15 = .ok (.istore_n 1, 1) := by decide +kernel
theorem dX5_fewestMoves_16 : decode cX5_fewestMoves 16 = .ok (.iload_n 1, 1) := by decide +kernel
theorem dX5_fewestMoves_17 : decode cX5_fewestMoves 17 = .ok (.invokestatic 247, 3) := by decide +kernel
theorem dX5_fewestMoves_20 : decode cX5_fewestMoves 20 = .ok (.iload_n 1, 1) := by decide +kernel
theorem dX5_fewestMoves_21 : decode cX5_fewestMoves 21 = .ok (.ireturn, 1) := by decide +kernel
theorem dX5_fewestByTrying_0 : decode cX5_fewestByTrying 0 = .ok (.aload_n 0, 1) := by decide +kernel
theorem dX5_fewestByTrying_1 : decode cX5_fewestByTrying 1 = .ok (.getfield 24, 3) := by decide +kernel
theorem dX5_fewestByTrying_4 : decode cX5_fewestByTrying 4 = .ok (.aload_n 0, 1) := by decide +kernel
theorem dX5_fewestByTrying_5 : decode cX5_fewestByTrying 5 = .ok (.getfield 11, 3) := by decide +kernel
theorem dX5_fewestByTrying_8 : decode cX5_fewestByTrying 8 = .ok (.aload_n 0, 1) := by decide +kernel
theorem dX5_fewestByTrying_9 : decode cX5_fewestByTrying 9 = .ok (.getfield 17, 3) := by decide +kernel
theorem dX5_fewestByTrying_12 : decode cX5_fewestByTrying 12 = .ok (.invokevirtual 250, 3) := by decide +kernel
theorem dX5_fewestByTrying_15 : decode cX5_fewestByTrying 15 = .ok (.aload_n 0, 1) := by decide +kernel
theorem dX5_fewestByTrying_16 : decode cX5_fewestByTrying 16 = .ok (.getfield 24, 3) := by decide +kernel
theorem dX5_fewestByTrying_19 : decode cX5_fewestByTrying 19 = .ok (.getfield 254, 3) := by decide +kernel
theorem dX5_fewestByTrying_22 : decode cX5_fewestByTrying 22 = .ok (.invokestatic 247, 3) := by decide +kernel
theorem dX5_fewestByTrying_25 : decode cX5_fewestByTrying 25 = .ok (.aload_n 0, 1) := by decide +kernel
theorem dX5_fewestByTrying_26 : decode cX5_fewestByTrying 26 = .ok (.getfield 24, 3) := by decide +kernel
theorem dX5_fewestByTrying_29 : decode cX5_fewestByTrying 29 = .ok (.getfield 254, 3) := by decide +kernel
theorem dX5_fewestByTrying_32 : decode cX5_fewestByTrying 32 = .ok (.ireturn, 1) := by decide +kernel
theorem dX5_planned_0 : decode cX5_planned 0 = .ok (.aload_n 0, 1) := by decide +kernel
theorem dX5_planned_1 : decode cX5_planned 1 = .ok (.iload_n 1, 1) := by decide +kernel
theorem dX5_planned_2 : decode cX5_planned 2 = .ok (.invokevirtual 99, 3) := by decide +kernel
theorem dX5_planned_5 : decode cX5_planned 5 = .ok (.astore_n 2, 1) := by decide +kernel
theorem dX5_planned_6 : decode cX5_planned 6 = .ok (.aload_n 0, 1) := by decide +kernel
theorem dX5_planned_7 : decode cX5_planned 7 = .ok (.getfield 24, 3) := by decide +kernel
theorem dX5_planned_10 : decode cX5_planned 10 = .ok (.aload_n 0, 1) := by decide +kernel
theorem dX5_planned_11 : decode cX5_planned 11 = .ok (.getfield 11, 3) := by decide +kernel
theorem dX5_planned_14 : decode cX5_planned 14 = .ok (.aload_n 0, 1) := by decide +kernel
theorem dX5_planned_15 : decode cX5_planned 15 = .ok (.getfield 17, 3) := by decide +kernel
theorem dX5_planned_18 : decode cX5_planned 18 = .ok (.invokevirtual 243, 3) := by decide +kernel
theorem dX5_planned_21 : decode cX5_planned 21 = .ok (.invokestatic 247, 3) := by decide +kernel
theorem dX5_planned_24 : decode cX5_planned 24 = .ok (.aload_n 2, 1) := by decide +kernel
theorem dX5_planned_25 : decode cX5_planned 25 = .ok (.getfield 257, 3) := by decide +kernel
theorem dX5_planned_28 : decode cX5_planned 28 = .ok (.ireturn, 1) := by decide +kernel
theorem dX5_soundPlans_0 : decode cX5_soundPlans 0 = .ok (.aload_n 0, 1) := by decide +kernel
theorem dX5_soundPlans_1 : decode cX5_soundPlans 1 = .ok (.getfield 24, 3) := by decide +kernel
theorem dX5_soundPlans_4 : decode cX5_soundPlans 4 = .ok (.aload_n 0, 1) := by decide +kernel
theorem dX5_soundPlans_5 : decode cX5_soundPlans 5 = .ok (.getfield 11, 3) := by decide +kernel
theorem dX5_soundPlans_8 : decode cX5_soundPlans 8 = .ok (.aload_n 0, 1) := by decide +kernel
theorem dX5_soundPlans_9 : decode cX5_soundPlans 9 = .ok (.getfield 17, 3) := by decide +kernel
theorem dX5_soundPlans_12 : decode cX5_soundPlans 12 = .ok (.invokevirtual 250, 3) := by decide +kernel
theorem dX5_soundPlans_15 : decode cX5_soundPlans 15 = .ok (.aload_n 0, 1) := by decide +kernel
theorem dX5_soundPlans_16 : decode cX5_soundPlans 16 = .ok (.getfield 24, 3) := by decide +kernel
theorem dX5_soundPlans_19 : decode cX5_soundPlans 19 = .ok (.getfield 260, 3) := by decide +kernel
theorem dX5_soundPlans_22 : decode cX5_soundPlans 22 = .ok (.ireturn, 1) := by decide +kernel
theorem dX5_switches_0 : decode cX5_switches 0 = .ok (.aload_n 0, 1) := by decide +kernel
theorem dX5_switches_1 : decode cX5_switches 1 = .ok (.getfield 263, 3) := by decide +kernel
theorem dX5_switches_4 : decode cX5_switches 4 = .ok (.ireturn, 1) := by decide +kernel
theorem dX5_hoursOver_0 : decode cX5_hoursOver 0 = .ok (.aload_n 0, 1) := by decide +kernel
theorem dX5_hoursOver_1 : decode cX5_hoursOver 1 = .ok (.getfield 266, 3) := by decide +kernel
theorem dX5_hoursOver_4 : decode cX5_hoursOver 4 = .ok (.lreturn, 1) := by decide +kernel
theorem dX5_shareOf_0 : decode cX5_shareOf 0 = .ok (.aload_n 0, 1) := by decide +kernel
theorem dX5_shareOf_1 : decode cX5_shareOf 1 = .ok (.iload_n 1, 1) := by decide +kernel
theorem dX5_shareOf_2 : decode cX5_shareOf 2 = .ok (.invokevirtual 52, 3) := by decide +kernel
theorem dX5_shareOf_5 : decode cX5_shareOf 5 = .ok (.astore_n 3, 1) := by decide +kernel
theorem dX5_shareOf_6 : decode cX5_shareOf 6 = .ok (.iload_n 2, 1) := by decide +kernel
theorem dX5_shareOf_7 : decode cX5_shareOf 7 = .ok (.invokestatic 60, 3) := by decide +kernel
theorem dX5_shareOf_10 : decode cX5_shareOf 10 = .ok (.aload_n 3, 1) := by decide +kernel
theorem dX5_shareOf_11 : decode cX5_shareOf 11 = .ok (.getfield 64, 3) := by decide +kernel
theorem dX5_shareOf_14 : decode cX5_shareOf 14 = .ok (.iload_n 2, 1) := by decide +kernel
theorem dX5_shareOf_15 : decode cX5_shareOf 15 = .ok (.invokevirtual 68, 3) := by decide +kernel
theorem dX5_shareOf_18 : decode cX5_shareOf 18 = .ok (.istore 4, 2) := by decide +kernel
theorem dX5_shareOf_20 : decode cX5_shareOf 20 = .ok (.iload 4, 2) := by decide +kernel
theorem dX5_shareOf_22 : decode cX5_shareOf 22 = .ok (.iconst 1, 1) := by decide +kernel
theorem dX5_shareOf_23 : decode cX5_shareOf 23 = .ok (.if_icmp .ge 7, 3) := by decide +kernel
theorem dX5_shareOf_26 : decode cX5_shareOf 26 = .ok (.fconst 0, 1) := by decide +kernel
theorem dX5_shareOf_27 : decode cX5_shareOf 27 = .ok (.goto 16, 3) := by decide +kernel
theorem dX5_shareOf_30 : decode cX5_shareOf 30 = .ok (.aload_n 3, 1) := by decide +kernel
theorem dX5_shareOf_31 : decode cX5_shareOf 31 = .ok (.getfield 233, 3) := by decide +kernel
theorem dX5_shareOf_34 : decode cX5_shareOf 34 = .ok (.iload_n 2, 1) := by decide +kernel
theorem dX5_shareOf_35 : decode cX5_shareOf 35 = .ok (.invokevirtual 68, 3) := by decide +kernel
theorem dX5_shareOf_38 : decode cX5_shareOf 38 = .ok (.i2f, 1) := by decide +kernel
theorem dX5_shareOf_39 : decode cX5_shareOf 39 = .ok (.iload 4, 2) := by decide +kernel
theorem dX5_shareOf_41 : decode cX5_shareOf 41 = .ok (.i2f, 1) := by decide +kernel
theorem dX5_shareOf_42 : decode cX5_shareOf 42 = .ok (.fdiv, 1) := by decide +kernel
theorem dX5_shareOf_43 : decode cX5_shareOf 43 = .ok (.freturn, 1) := by decide +kernel
theorem dX5_meanStorage_0 : decode cX5_meanStorage 0 = .ok (.iconst 0, 1) := by decide +kernel
theorem dX5_meanStorage_1 : decode cX5_meanStorage 1 = .ok (.istore_n 1, 1) := by decide +kernel
theorem dX5_meanStorage_2 : decode cX5_meanStorage 2 = .ok (.iconst 0, 1) := by decide +kernel
theorem dX5_meanStorage_3 : decode cX5_meanStorage 3 = .ok (.istore_n 2, 1) := by decide +kernel
theorem dX5_meanStorage_4 : decode cX5_meanStorage 4 = .ok (.aload_n 0, 1) := by decide +kernel
theorem dX5_meanStorage_5 : decode cX5_meanStorage 5 = .ok (.getfield 17, 3) := by decide +kernel
theorem dX5_meanStorage_8 : decode cX5_meanStorage 8 = .ok (.astore_n 3, 1) := by decide +kernel
theorem dX5_meanStorage_9 : decode cX5_meanStorage 9 = .ok (.aload_n 3, 1) := by decide +kernel
theorem dX5_meanStorage_10 : decode cX5_meanStorage 10 = .ok (.arraylength, 1) := by decide +kernel
theorem dX5_meanStorage_11 : decode cX5_meanStorage 11 = .ok (.istore 4, 2) := by decide +kernel
theorem dX5_meanStorage_13 : decode cX5_meanStorage 13 = .ok (.iconst 0, 1) := by decide +kernel
theorem dX5_meanStorage_14 : decode cX5_meanStorage 14 = .ok (.istore 5, 2) := by decide +kernel
theorem dX5_meanStorage_16 : decode cX5_meanStorage 16 = .ok (.iload 5, 2) := by decide +kernel
theorem dX5_meanStorage_18 : decode cX5_meanStorage 18 = .ok (.iload 4, 2) := by decide +kernel
theorem dX5_meanStorage_20 : decode cX5_meanStorage 20 = .ok (.if_icmp .ge 35, 3) := by decide +kernel
theorem dX5_meanStorage_23 : decode cX5_meanStorage 23 = .ok (.aload_n 3, 1) := by decide +kernel
theorem dX5_meanStorage_24 : decode cX5_meanStorage 24 = .ok (.iload 5, 2) := by decide +kernel
theorem dX5_meanStorage_26 : decode cX5_meanStorage 26 = .ok (.aaload, 1) := by decide +kernel
theorem dX5_meanStorage_27 : decode cX5_meanStorage 27 = .ok (.astore 6, 2) := by decide +kernel
theorem dX5_meanStorage_29 : decode cX5_meanStorage 29 = .ok (.aload 6, 2) := by decide +kernel
theorem dX5_meanStorage_31 : decode cX5_meanStorage 31 = .ok (.ifnull 18, 3) := by decide +kernel
theorem dX5_meanStorage_34 : decode cX5_meanStorage 34 = .ok (.iload_n 1, 1) := by decide +kernel
theorem dX5_meanStorage_35 : decode cX5_meanStorage 35 = .ok (.aload 6, 2) := by decide +kernel
theorem dX5_meanStorage_37 : decode cX5_meanStorage 37 = .ok (.getfield 103, 3) := by decide +kernel
theorem dX5_meanStorage_40 : decode cX5_meanStorage 40 = .ok (.iconst 0, 1) := by decide +kernel
theorem dX5_meanStorage_41 : decode cX5_meanStorage 41 = .ok (.invokevirtual 68, 3) := by decide +kernel
theorem dX5_meanStorage_44 : decode cX5_meanStorage 44 = .ok (.iadd, 1) := by decide +kernel
theorem dX5_meanStorage_45 : decode cX5_meanStorage 45 = .ok (.istore_n 1, 1) := by decide +kernel
theorem dX5_meanStorage_46 : decode cX5_meanStorage 46 = .ok (.iinc 2 1, 3) := by decide +kernel
theorem dX5_meanStorage_49 : decode cX5_meanStorage 49 = .ok (.iinc 5 1, 3) := by decide +kernel
theorem dX5_meanStorage_52 : decode cX5_meanStorage 52 = .ok (.goto (-36), 3) := by decide +kernel
theorem dX5_meanStorage_55 : decode cX5_meanStorage 55 = .ok (.iload_n 2, 1) := by decide +kernel
theorem dX5_meanStorage_56 : decode cX5_meanStorage 56 = .ok (.iconst 1, 1) := by decide +kernel
theorem dX5_meanStorage_57 : decode cX5_meanStorage 57 = .ok (.if_icmp .ge 14, 3) := by decide +kernel
theorem dX5_meanStorage_60 : decode cX5_meanStorage 60 = .ok (.new 270, 3) := by decide +kernel
theorem dX5_meanStorage_63 : decode cX5_meanStorage 63 = .ok (.dup, 1) := by decide +kernel
theorem dX5_meanStorage_64 : decode cX5_meanStorage 64 = .ok (.ldc_w 272, 3) := by decide +kernel
theorem dX5_meanStorage_67 : decode cX5_meanStorage 67 = .ok (.invokespecial 274, 3) := by decide +kernel
theorem dX5_meanStorage_70 : decode cX5_meanStorage 70 = .ok (.athrow, 1) := by decide +kernel
theorem dX5_meanStorage_71 : decode cX5_meanStorage 71 = .ok (.iload_n 1, 1) := by decide +kernel
theorem dX5_meanStorage_72 : decode cX5_meanStorage 72 = .ok (.i2d, 1) := by decide +kernel
theorem dX5_meanStorage_73 : decode cX5_meanStorage 73 = .ok (.iload_n 2, 1) := by decide +kernel
theorem dX5_meanStorage_74 : decode cX5_meanStorage 74 = .ok (.i2d, 1) := by decide +kernel
theorem dX5_meanStorage_75 : decode cX5_meanStorage 75 = .ok (.ddiv, 1) := by decide +kernel
theorem dX5_meanStorage_76 : decode cX5_meanStorage 76 = .ok (.dreturn, 1) := by decide +kernel
theorem dX5_requireRange_0 : decode cX5_requireRange 0 = .ok (.iload_n 0, 1) := by decide +kernel
theorem dX5_requireRange_1 : decode cX5_requireRange 1 = .ok (.iload_n 1, 1) := by decide +kernel
theorem dX5_requireRange_2 : decode cX5_requireRange 2 = .ok (.if_icmp .lt 8, 3) := by decide +kernel
theorem dX5_requireRange_5 : decode cX5_requireRange 5 = .ok (.iload_n 0, 1) := by decide +kernel
theorem dX5_requireRange_6 : decode cX5_requireRange 6 = .ok (.iload_n 2, 1) := by decide +kernel
theorem dX5_requireRange_7 : decode cX5_requireRange 7 = .ok (.if_icmp .le 14, 3) := by decide +kernel
theorem dX5_requireRange_10 : decode cX5_requireRange 10 = .ok (.new 116, 3) := by decide +kernel
theorem dX5_requireRange_13 : decode cX5_requireRange 13 = .ok (.dup, 1) := by decide +kernel
theorem dX5_requireRange_14 : decode cX5_requireRange 14 = .ok (.ldc_w 275, 3) := by decide +kernel
theorem dX5_requireRange_17 : decode cX5_requireRange 17 = .ok (.invokespecial 120, 3) := by decide +kernel
theorem dX5_requireRange_20 : decode cX5_requireRange 20 = .ok (.athrow, 1) := by decide +kernel
theorem dX5_requireRange_21 : decode cX5_requireRange 21 = .ok (.return_, 1) := by decide +kernel
theorem dX5_requireMeasure_0 : decode cX5_requireMeasure 0 = .ok (.iload_n 0, 1) := by decide +kernel
theorem dX5_requireMeasure_1 : decode cX5_requireMeasure 1 = .ok (.ifCond .lt 8, 3) := by decide +kernel
theorem dX5_requireMeasure_4 : decode cX5_requireMeasure 4 = .ok (.iload_n 0, 1) := by decide +kernel
theorem dX5_requireMeasure_5 : decode cX5_requireMeasure 5 = .ok (.iconst 3, 1) := by decide +kernel
theorem dX5_requireMeasure_6 : decode cX5_requireMeasure 6 = .ok (.if_icmp .lt 14, 3) := by decide +kernel
theorem dX5_requireMeasure_9 : decode cX5_requireMeasure 9 = .ok (.new 277, 3) := by decide +kernel
theorem dX5_requireMeasure_12 : decode cX5_requireMeasure 12 = .ok (.dup, 1) := by decide +kernel
theorem dX5_requireMeasure_13 : decode cX5_requireMeasure 13 = .ok (.ldc_w 279, 3) := by decide +kernel
theorem dX5_requireMeasure_16 : decode cX5_requireMeasure 16 = .ok (.invokespecial 281, 3) := by decide +kernel
theorem dX5_requireMeasure_19 : decode cX5_requireMeasure 19 = .ok (.athrow, 1) := by decide +kernel
theorem dX5_requireMeasure_20 : decode cX5_requireMeasure 20 = .ok (.return_, 1) := by decide +kernel
theorem dX5_requirePlan_0 : decode cX5_requirePlan 0 = .ok (.iload_n 0, 1) := by decide +kernel
theorem dX5_requirePlan_1 : decode cX5_requirePlan 1 = .ok (.bipush 7, 2) := by decide +kernel
theorem dX5_requirePlan_3 : decode cX5_requirePlan 3 = .ok (.if_icmp .ne 14, 3) := by decide +kernel
theorem dX5_requirePlan_6 : decode cX5_requirePlan 6 = .ok (.new 282, 3) := by decide +kernel
theorem dX5_requirePlan_9 : decode cX5_requirePlan 9 = .ok (.dup, 1) := by decide +kernel
theorem dX5_requirePlan_10 : decode cX5_requirePlan 10 = .ok (.ldc_w 284, 3) := by decide +kernel
theorem dX5_requirePlan_13 : decode cX5_requirePlan 13 = .ok (.invokespecial 286, 3) := by decide +kernel
theorem dX5_requirePlan_16 : decode cX5_requirePlan 16 = .ok (.athrow, 1) := by decide +kernel
theorem dX5_requirePlan_17 : decode cX5_requirePlan 17 = .ok (.return_, 1) := by decide +kernel
theorem dX5_shardOrNull_0 : decode cX5_shardOrNull 0 = .ok (.iload_n 1, 1) := by decide +kernel
theorem dX5_shardOrNull_1 : decode cX5_shardOrNull 1 = .ok (.ifCond .lt 12, 3) := by decide +kernel
theorem dX5_shardOrNull_4 : decode cX5_shardOrNull 4 = .ok (.iload_n 1, 1) := by decide +kernel
theorem dX5_shardOrNull_5 : decode cX5_shardOrNull 5 = .ok (.aload_n 0, 1) := by decide +kernel
theorem dX5_shardOrNull_6 : decode cX5_shardOrNull 6 = .ok (.getfield 11, 3) := by decide +kernel
theorem dX5_shardOrNull_9 : decode cX5_shardOrNull 9 = .ok (.arraylength, 1) := by decide +kernel
theorem dX5_shardOrNull_10 : decode cX5_shardOrNull 10 = .ok (.if_icmp .lt 7, 3) := by decide +kernel
theorem dX5_shardOrNull_13 : decode cX5_shardOrNull 13 = .ok (.aconst_null, 1) := by decide +kernel
theorem dX5_shardOrNull_14 : decode cX5_shardOrNull 14 = .ok (.goto 9, 3) := by decide +kernel
theorem dX5_shardOrNull_17 : decode cX5_shardOrNull 17 = .ok (.aload_n 0, 1) := by decide +kernel
theorem dX5_shardOrNull_18 : decode cX5_shardOrNull 18 = .ok (.getfield 11, 3) := by decide +kernel
theorem dX5_shardOrNull_21 : decode cX5_shardOrNull 21 = .ok (.iload_n 1, 1) := by decide +kernel
theorem dX5_shardOrNull_22 : decode cX5_shardOrNull 22 = .ok (.aaload, 1) := by decide +kernel
theorem dX5_shardOrNull_23 : decode cX5_shardOrNull 23 = .ok (.areturn, 1) := by decide +kernel
theorem dX5_knownShard_0 : decode cX5_knownShard 0 = .ok (.aload_n 0, 1) := by decide +kernel
theorem dX5_knownShard_1 : decode cX5_knownShard 1 = .ok (.iload_n 1, 1) := by decide +kernel
theorem dX5_knownShard_2 : decode cX5_knownShard 2 = .ok (.invokevirtual 287, 3) := by decide +kernel
theorem dX5_knownShard_5 : decode cX5_knownShard 5 = .ok (.astore_n 2, 1) := by decide +kernel
theorem dX5_knownShard_6 : decode cX5_knownShard 6 = .ok (.aload_n 2, 1) := by decide +kernel
theorem dX5_knownShard_7 : decode cX5_knownShard 7 = .ok (.ifnonnull 14, 3) := by decide +kernel
theorem dX5_knownShard_10 : decode cX5_knownShard 10 = .ok (.new 277, 3) := by decide +kernel
theorem dX5_knownShard_13 : decode cX5_knownShard 13 = .ok (.dup, 1) := by decide +kernel
theorem dX5_knownShard_14 : decode cX5_knownShard 14 = .ok (.ldc_w 290, 3) := by decide +kernel
theorem dX5_knownShard_17 : decode cX5_knownShard 17 = .ok (.invokespecial 281, 3) := by decide +kernel
theorem dX5_knownShard_20 : decode cX5_knownShard 20 = .ok (.athrow, 1) := by decide +kernel
theorem dX5_knownShard_21 : decode cX5_knownShard 21 = .ok (.aload_n 2, 1) := by decide +kernel
theorem dX5_knownShard_22 : decode cX5_knownShard 22 = .ok (.areturn, 1) := by decide +kernel
theorem dX5_knownTenant_0 : decode cX5_knownTenant 0 = .ok (.iload_n 1, 1) := by decide +kernel
theorem dX5_knownTenant_1 : decode cX5_knownTenant 1 = .ok (.ifCond .lt 12, 3) := by decide +kernel
theorem dX5_knownTenant_4 : decode cX5_knownTenant 4 = .ok (.iload_n 1, 1) := by decide +kernel
theorem dX5_knownTenant_5 : decode cX5_knownTenant 5 = .ok (.aload_n 0, 1) := by decide +kernel
theorem dX5_knownTenant_6 : decode cX5_knownTenant 6 = .ok (.getfield 17, 3) := by decide +kernel
theorem dX5_knownTenant_9 : decode cX5_knownTenant 9 = .ok (.arraylength, 1) := by decide +kernel
theorem dX5_knownTenant_10 : decode cX5_knownTenant 10 = .ok (.if_icmp .lt 7, 3) := by decide +kernel
theorem dX5_knownTenant_13 : decode cX5_knownTenant 13 = .ok (.aconst_null, 1) := by decide +kernel
theorem dX5_knownTenant_14 : decode cX5_knownTenant 14 = .ok (.goto 9, 3) := by decide +kernel
theorem dX5_knownTenant_17 : decode cX5_knownTenant 17 = .ok (.aload_n 0, 1) := by decide +kernel
theorem dX5_knownTenant_18 : decode cX5_knownTenant 18 = .ok (.getfield 17, 3) := by decide +kernel
theorem dX5_knownTenant_21 : decode cX5_knownTenant 21 = .ok (.iload_n 1, 1) := by decide +kernel
theorem dX5_knownTenant_22 : decode cX5_knownTenant 22 = .ok (.aaload, 1) := by decide +kernel
theorem dX5_knownTenant_23 : decode cX5_knownTenant 23 = .ok (.astore_n 2, 1) := by decide +kernel
theorem dX5_knownTenant_24 : decode cX5_knownTenant 24 = .ok (.aload_n 2, 1) := by decide +kernel
theorem dX5_knownTenant_25 : decode cX5_knownTenant 25 = .ok (.ifnonnull 14, 3) := by decide +kernel
theorem dX5_knownTenant_28 : decode cX5_knownTenant 28 = .ok (.new 277, 3) := by decide +kernel
theorem dX5_knownTenant_31 : decode cX5_knownTenant 31 = .ok (.dup, 1) := by decide +kernel
theorem dX5_knownTenant_32 : decode cX5_knownTenant 32 = .ok (.ldc_w 292, 3) := by decide +kernel
theorem dX5_knownTenant_35 : decode cX5_knownTenant 35 = .ok (.invokespecial 281, 3) := by decide +kernel
theorem dX5_knownTenant_38 : decode cX5_knownTenant 38 = .ok (.athrow, 1) := by decide +kernel
theorem dX5_knownTenant_39 : decode cX5_knownTenant 39 = .ok (.aload_n 2, 1) := by decide +kernel
theorem dX5_knownTenant_40 : decode cX5_knownTenant 40 = .ok (.areturn, 1) := by decide +kernel
theorem dX5_movingTenant_0 : decode cX5_movingTenant 0 = .ok (.aload_n 0, 1) := by decide +kernel
theorem dX5_movingTenant_1 : decode cX5_movingTenant 1 = .ok (.iload_n 1, 1) := by decide +kernel
theorem dX5_movingTenant_2 : decode cX5_movingTenant 2 = .ok (.invokevirtual 99, 3) := by decide +kernel
theorem dX5_movingTenant_5 : decode cX5_movingTenant 5 = .ok (.astore_n 2, 1) := by decide +kernel
theorem dX5_movingTenant_6 : decode cX5_movingTenant 6 = .ok (.aload_n 2, 1) := by decide +kernel
theorem dX5_movingTenant_7 : decode cX5_movingTenant 7 = .ok (.getfield 146, 3) := by decide +kernel
theorem dX5_movingTenant_10 : decode cX5_movingTenant 10 = .ok (.invokevirtual 155, 3) := by decide +kernel
theorem dX5_movingTenant_13 : decode cX5_movingTenant 13 = .ok (.ifCond .ne 13, 3) := by decide +kernel
theorem dX5_movingTenant_16 : decode cX5_movingTenant 16 = .ok (.new 282, 3) := by decide +kernel
theorem dX5_movingTenant_19 : decode cX5_movingTenant 19 = .ok (.dup, 1) := by decide +kernel
theorem dX5_movingTenant_20 : decode cX5_movingTenant 20 = .ok (.ldc 172, 2) := by decide +kernel
theorem dX5_movingTenant_22 : decode cX5_movingTenant 22 = .ok (.invokespecial 286, 3) := by decide +kernel
theorem dX5_movingTenant_25 : decode cX5_movingTenant 25 = .ok (.athrow, 1) := by decide +kernel
theorem dX5_movingTenant_26 : decode cX5_movingTenant 26 = .ok (.aload_n 2, 1) := by decide +kernel
theorem dX5_movingTenant_27 : decode cX5_movingTenant 27 = .ok (.areturn, 1) := by decide +kernel
theorem dX5_hourOfDay_0 : decode cX5_hourOfDay 0 = .ok (.iload_n 0, 1) := by decide +kernel
theorem dX5_hourOfDay_1 : decode cX5_hourOfDay 1 = .ok (.bipush 24, 2) := by decide +kernel
theorem dX5_hourOfDay_3 : decode cX5_hourOfDay 3 = .ok (.invokestatic 294, 3) := by decide +kernel
theorem dX5_hourOfDay_6 : decode cX5_hourOfDay 6 = .ok (.ireturn, 1) := by decide +kernel
theorem dX5_countUse_0 : decode cX5_countUse 0 = .ok (.iconst 0, 1) := by decide +kernel
theorem dX5_countUse_1 : decode cX5_countUse 1 = .ok (.istore_n 3, 1) := by decide +kernel
theorem dX5_countUse_2 : decode cX5_countUse 2 = .ok (.iload_n 3, 1) := by decide +kernel
theorem dX5_countUse_3 : decode cX5_countUse 3 = .ok (.aload_n 0, 1) := by decide +kernel
theorem dX5_countUse_4 : decode cX5_countUse 4 = .ok (.getfield 11, 3) := by decide +kernel
theorem dX5_countUse_7 : decode cX5_countUse 7 = .ok (.arraylength, 1) := by decide +kernel
theorem dX5_countUse_8 : decode cX5_countUse 8 = .ok (.if_icmp .ge 71, 3) := by decide +kernel
theorem dX5_countUse_11 : decode cX5_countUse 11 = .ok (.aload_n 0, 1) := by decide +kernel
theorem dX5_countUse_12 : decode cX5_countUse 12 = .ok (.getfield 11, 3) := by decide +kernel
theorem dX5_countUse_15 : decode cX5_countUse 15 = .ok (.iload_n 3, 1) := by decide +kernel
theorem dX5_countUse_16 : decode cX5_countUse 16 = .ok (.aaload, 1) := by decide +kernel
theorem dX5_countUse_17 : decode cX5_countUse 17 = .ok (.astore 4, 2) := by decide +kernel
theorem dX5_countUse_19 : decode cX5_countUse 19 = .ok (.aload 4, 2) := by decide +kernel
theorem dX5_countUse_21 : decode cX5_countUse 21 = .ok (.ifnull 52, 3) := by decide +kernel
theorem dX5_countUse_24 : decode cX5_countUse 24 = .ok (.iconst 0, 1) := by decide +kernel
theorem dX5_countUse_25 : decode cX5_countUse 25 = .ok (.istore 5, 2) := by decide +kernel
theorem dX5_countUse_27 : decode cX5_countUse 27 = .ok (.iload 5, 2) := by decide +kernel
theorem dX5_countUse_29 : decode cX5_countUse 29 = .ok (.iconst 3, 1) := by decide +kernel
theorem dX5_countUse_30 : decode cX5_countUse 30 = .ok (.if_icmp .ge 43, 3) := by decide +kernel
theorem dX5_countUse_33 : decode cX5_countUse 33 = .ok (.aload 4, 2) := by decide +kernel
theorem dX5_countUse_35 : decode cX5_countUse 35 = .ok (.getfield 233, 3) := by decide +kernel
theorem dX5_countUse_38 : decode cX5_countUse 38 = .ok (.iload 5, 2) := by decide +kernel
theorem dX5_countUse_40 : decode cX5_countUse 40 = .ok (.invokevirtual 68, 3) := by decide +kernel
theorem dX5_countUse_43 : decode cX5_countUse 43 = .ok (.istore 6, 2) := by decide +kernel
theorem dX5_countUse_45 : decode cX5_countUse 45 = .ok (.aload 4, 2) := by decide +kernel
theorem dX5_countUse_47 : decode cX5_countUse 47 = .ok (.getfield 233, 3) := by decide +kernel
theorem dX5_countUse_50 : decode cX5_countUse 50 = .ok (.iload 5, 2) := by decide +kernel
theorem dX5_countUse_52 : decode cX5_countUse 52 = .ok (.iload 6, 2) := by decide +kernel
theorem dX5_countUse_54 : decode cX5_countUse 54 = .ok (.iload_n 2, 1) := by decide +kernel
theorem dX5_countUse_55 : decode cX5_countUse 55 = .ok (.aload_n 1, 1) := by decide +kernel
theorem dX5_countUse_56 : decode cX5_countUse 56 = .ok (.iload_n 3, 1) := by decide +kernel
theorem dX5_countUse_57 : decode cX5_countUse 57 = .ok (.iload 5, 2) := by decide +kernel
theorem dX5_countUse_59 : decode cX5_countUse 59 = .ok (.invokevirtual 236, 3) := by decide +kernel
theorem dX5_countUse_62 : decode cX5_countUse 62 = .ok (.imul, 1) := by decide +kernel
theorem dX5_countUse_63 : decode cX5_countUse 63 = .ok (.iadd, 1) := by decide +kernel
theorem dX5_countUse_64 : decode cX5_countUse 64 = .ok (.invokevirtual 74, 3) := by decide +kernel
theorem dX5_countUse_67 : decode cX5_countUse 67 = .ok (.iinc 5 1, 3) := by decide +kernel
theorem dX5_countUse_70 : decode cX5_countUse 70 = .ok (.goto (-43), 3) := by decide +kernel
theorem dX5_countUse_73 : decode cX5_countUse 73 = .ok (.iinc 3 1, 3) := by decide +kernel
theorem dX5_countUse_76 : decode cX5_countUse 76 = .ok (.goto (-74), 3) := by decide +kernel
theorem dX5_countUse_79 : decode cX5_countUse 79 = .ok (.return_, 1) := by decide +kernel
theorem dX5_isBarred_0 : decode cX5_isBarred 0 = .ok (.iconst 0, 1) := by decide +kernel
theorem dX5_isBarred_1 : decode cX5_isBarred 1 = .ok (.istore_n 3, 1) := by decide +kernel
theorem dX5_isBarred_2 : decode cX5_isBarred 2 = .ok (.iload_n 3, 1) := by decide +kernel
theorem dX5_isBarred_3 : decode cX5_isBarred 3 = .ok (.aload_n 0, 1) := by decide +kernel
theorem dX5_isBarred_4 : decode cX5_isBarred 4 = .ok (.getfield 17, 3) := by decide +kernel
theorem dX5_isBarred_7 : decode cX5_isBarred 7 = .ok (.arraylength, 1) := by decide +kernel
theorem dX5_isBarred_8 : decode cX5_isBarred 8 = .ok (.if_icmp .ge 41, 3) := by decide +kernel
theorem dX5_isBarred_11 : decode cX5_isBarred 11 = .ok (.aload_n 0, 1) := by decide +kernel
theorem dX5_isBarred_12 : decode cX5_isBarred 12 = .ok (.getfield 17, 3) := by decide +kernel
theorem dX5_isBarred_15 : decode cX5_isBarred 15 = .ok (.iload_n 3, 1) := by decide +kernel
theorem dX5_isBarred_16 : decode cX5_isBarred 16 = .ok (.aaload, 1) := by decide +kernel
theorem dX5_isBarred_17 : decode cX5_isBarred 17 = .ok (.astore 4, 2) := by decide +kernel
theorem dX5_isBarred_19 : decode cX5_isBarred 19 = .ok (.aload 4, 2) := by decide +kernel
theorem dX5_isBarred_21 : decode cX5_isBarred 21 = .ok (.ifnull 22, 3) := by decide +kernel
theorem dX5_isBarred_24 : decode cX5_isBarred 24 = .ok (.aload_n 2, 1) := by decide +kernel
theorem dX5_isBarred_25 : decode cX5_isBarred 25 = .ok (.iload_n 3, 1) := by decide +kernel
theorem dX5_isBarred_26 : decode cX5_isBarred 26 = .ok (.invokevirtual 121, 3) := by decide +kernel
theorem dX5_isBarred_29 : decode cX5_isBarred 29 = .ok (.ifCond .eq 14, 3) := by decide +kernel
theorem dX5_isBarred_32 : decode cX5_isBarred 32 = .ok (.aload 4, 2) := by decide +kernel
theorem dX5_isBarred_34 : decode cX5_isBarred 34 = .ok (.iload_n 1, 1) := by decide +kernel
theorem dX5_isBarred_35 : decode cX5_isBarred 35 = .ok (.invokevirtual 299, 3) := by decide +kernel
theorem dX5_isBarred_38 : decode cX5_isBarred 38 = .ok (.ifCond .eq 5, 3) := by decide +kernel
theorem dX5_isBarred_41 : decode cX5_isBarred 41 = .ok (.iconst 1, 1) := by decide +kernel
theorem dX5_isBarred_42 : decode cX5_isBarred 42 = .ok (.ireturn, 1) := by decide +kernel
theorem dX5_isBarred_43 : decode cX5_isBarred 43 = .ok (.iinc 3 1, 3) := by decide +kernel
theorem dX5_isBarred_46 : decode cX5_isBarred 46 = .ok (.goto (-44), 3) := by decide +kernel
theorem dX5_isBarred_49 : decode cX5_isBarred 49 = .ok (.iconst 0, 1) := by decide +kernel
theorem dX5_isBarred_50 : decode cX5_isBarred 50 = .ok (.ireturn, 1) := by decide +kernel
theorem dX5_canGoBack_0 : decode cX5_canGoBack 0 = .ok (.aload_n 0, 1) := by decide +kernel
theorem dX5_canGoBack_1 : decode cX5_canGoBack 1 = .ok (.aload_n 1, 1) := by decide +kernel
theorem dX5_canGoBack_2 : decode cX5_canGoBack 2 = .ok (.getfield 146, 3) := by decide +kernel
theorem dX5_canGoBack_5 : decode cX5_canGoBack 5 = .ok (.getfield 302, 3) := by decide +kernel
theorem dX5_canGoBack_8 : decode cX5_canGoBack 8 = .ok (.invokevirtual 287, 3) := by decide +kernel
theorem dX5_canGoBack_11 : decode cX5_canGoBack 11 = .ok (.astore_n 2, 1) := by decide +kernel
theorem dX5_canGoBack_12 : decode cX5_canGoBack 12 = .ok (.aload_n 2, 1) := by decide +kernel
theorem dX5_canGoBack_13 : decode cX5_canGoBack 13 = .ok (.ifnull 40, 3) := by decide +kernel
theorem dX5_canGoBack_16 : decode cX5_canGoBack 16 = .ok (.aload_n 2, 1) := by decide +kernel
theorem dX5_canGoBack_17 : decode cX5_canGoBack 17 = .ok (.getfield 56, 3) := by decide +kernel
theorem dX5_canGoBack_20 : decode cX5_canGoBack 20 = .ok (.ifCond .eq 33, 3) := by decide +kernel
theorem dX5_canGoBack_23 : decode cX5_canGoBack 23 = .ok (.aload_n 0, 1) := by decide +kernel
theorem dX5_canGoBack_24 : decode cX5_canGoBack 24 = .ok (.aload_n 1, 1) := by decide +kernel
theorem dX5_canGoBack_25 : decode cX5_canGoBack 25 = .ok (.getfield 146, 3) := by decide +kernel
theorem dX5_canGoBack_28 : decode cX5_canGoBack 28 = .ok (.getfield 302, 3) := by decide +kernel
theorem dX5_canGoBack_31 : decode cX5_canGoBack 31 = .ok (.aload_n 1, 1) := by decide +kernel
theorem dX5_canGoBack_32 : decode cX5_canGoBack 32 = .ok (.invokevirtual 159, 3) := by decide +kernel
theorem dX5_canGoBack_35 : decode cX5_canGoBack 35 = .ok (.ifCond .ne 18, 3) := by decide +kernel
theorem dX5_canGoBack_38 : decode cX5_canGoBack 38 = .ok (.aload_n 2, 1) := by decide +kernel
theorem dX5_canGoBack_39 : decode cX5_canGoBack 39 = .ok (.aload_n 1, 1) := by decide +kernel
theorem dX5_canGoBack_40 : decode cX5_canGoBack 40 = .ok (.getfield 103, 3) := by decide +kernel
theorem dX5_canGoBack_43 : decode cX5_canGoBack 43 = .ok (.invokevirtual 305, 3) := by decide +kernel
theorem dX5_canGoBack_46 : decode cX5_canGoBack 46 = .ok (.ifCond .eq 7, 3) := by decide +kernel
theorem dX5_canGoBack_49 : decode cX5_canGoBack 49 = .ok (.iconst 1, 1) := by decide +kernel
theorem dX5_canGoBack_50 : decode cX5_canGoBack 50 = .ok (.goto 4, 3) := by decide +kernel
theorem dX5_canGoBack_53 : decode cX5_canGoBack 53 = .ok (.iconst 0, 1) := by decide +kernel
theorem dX5_canGoBack_54 : decode cX5_canGoBack 54 = .ok (.ireturn, 1) := by decide +kernel
theorem dX5_goBack_0 : decode cX5_goBack 0 = .ok (.aload_n 0, 1) := by decide +kernel
theorem dX5_goBack_1 : decode cX5_goBack 1 = .ok (.aload_n 1, 1) := by decide +kernel
theorem dX5_goBack_2 : decode cX5_goBack 2 = .ok (.iconst (-1), 1) := by decide +kernel
theorem dX5_goBack_3 : decode cX5_goBack 3 = .ok (.invokevirtual 95, 3) := by decide +kernel
theorem dX5_goBack_6 : decode cX5_goBack 6 = .ok (.aload_n 1, 1) := by decide +kernel
theorem dX5_goBack_7 : decode cX5_goBack 7 = .ok (.getfield 146, 3) := by decide +kernel
theorem dX5_goBack_10 : decode cX5_goBack 10 = .ok (.invokevirtual 309, 3) := by decide +kernel
theorem dX5_goBack_13 : decode cX5_goBack 13 = .ok (.aload_n 1, 1) := by decide +kernel
theorem dX5_goBack_14 : decode cX5_goBack 14 = .ok (.aload_n 1, 1) := by decide +kernel
theorem dX5_goBack_15 : decode cX5_goBack 15 = .ok (.getfield 146, 3) := by decide +kernel
theorem dX5_goBack_18 : decode cX5_goBack 18 = .ok (.getfield 213, 3) := by decide +kernel
theorem dX5_goBack_21 : decode cX5_goBack 21 = .ok (.putfield 149, 3) := by decide +kernel
theorem dX5_goBack_24 : decode cX5_goBack 24 = .ok (.aload_n 0, 1) := by decide +kernel
theorem dX5_goBack_25 : decode cX5_goBack 25 = .ok (.aload_n 1, 1) := by decide +kernel
theorem dX5_goBack_26 : decode cX5_goBack 26 = .ok (.iconst 1, 1) := by decide +kernel
theorem dX5_goBack_27 : decode cX5_goBack 27 = .ok (.invokevirtual 95, 3) := by decide +kernel
theorem dX5_goBack_30 : decode cX5_goBack 30 = .ok (.aload_n 0, 1) := by decide +kernel
theorem dX5_goBack_31 : decode cX5_goBack 31 = .ok (.dup, 1) := by decide +kernel
theorem dX5_goBack_32 : decode cX5_goBack 32 = .ok (.getfield 263, 3) := by decide +kernel
theorem dX5_goBack_35 : decode cX5_goBack 35 = .ok (.iconst 1, 1) := by decide +kernel
theorem dX5_goBack_36 : decode cX5_goBack 36 = .ok (.iadd, 1) := by decide +kernel
theorem dX5_goBack_37 : decode cX5_goBack 37 = .ok (.putfield 263, 3) := by decide +kernel
theorem dX5_goBack_40 : decode cX5_goBack 40 = .ok (.return_, 1) := by decide +kernel
theorem dX5_noteHoursOver_0 : decode cX5_noteHoursOver 0 = .ok (.aload_n 0, 1) := by decide +kernel
theorem dX5_noteHoursOver_1 : decode cX5_noteHoursOver 1 = .ok (.getfield 17, 3) := by decide +kernel
theorem dX5_noteHoursOver_4 : decode cX5_noteHoursOver 4 = .ok (.astore_n 1, 1) := by decide +kernel
theorem dX5_noteHoursOver_5 : decode cX5_noteHoursOver 5 = .ok (.aload_n 1, 1) := by decide +kernel
theorem dX5_noteHoursOver_6 : decode cX5_noteHoursOver 6 = .ok (.arraylength, 1) := by decide +kernel
theorem dX5_noteHoursOver_7 : decode cX5_noteHoursOver 7 = .ok (.istore_n 2, 1) := by decide +kernel
theorem dX5_noteHoursOver_8 : decode cX5_noteHoursOver 8 = .ok (.iconst 0, 1) := by decide +kernel
theorem dX5_noteHoursOver_9 : decode cX5_noteHoursOver 9 = .ok (.istore_n 3, 1) := by decide +kernel
theorem dX5_noteHoursOver_10 : decode cX5_noteHoursOver 10 = .ok (.iload_n 3, 1) := by decide +kernel
theorem dX5_noteHoursOver_11 : decode cX5_noteHoursOver 11 = .ok (.iload_n 2, 1) := by decide +kernel
theorem dX5_noteHoursOver_12 : decode cX5_noteHoursOver 12 = .ok (.if_icmp .ge 53, 3) := by decide +kernel
theorem dX5_noteHoursOver_15 : decode cX5_noteHoursOver 15 = .ok (.aload_n 1, 1) := by decide +kernel
theorem dX5_noteHoursOver_16 : decode cX5_noteHoursOver 16 = .ok (.iload_n 3, 1) := by decide +kernel
theorem dX5_noteHoursOver_17 : decode cX5_noteHoursOver 17 = .ok (.aaload, 1) := by decide +kernel
theorem dX5_noteHoursOver_18 : decode cX5_noteHoursOver 18 = .ok (.astore 4, 2) := by decide +kernel
theorem dX5_noteHoursOver_20 : decode cX5_noteHoursOver 20 = .ok (.aload 4, 2) := by decide +kernel
theorem dX5_noteHoursOver_22 : decode cX5_noteHoursOver 22 = .ok (.ifnull 37, 3) := by decide +kernel
theorem dX5_noteHoursOver_25 : decode cX5_noteHoursOver 25 = .ok (.aload_n 0, 1) := by decide +kernel
theorem dX5_noteHoursOver_26 : decode cX5_noteHoursOver 26 = .ok (.aload 4, 2) := by decide +kernel
theorem dX5_noteHoursOver_28 : decode cX5_noteHoursOver 28 = .ok (.getfield 149, 3) := by decide +kernel
theorem dX5_noteHoursOver_31 : decode cX5_noteHoursOver 31 = .ok (.invokevirtual 287, 3) := by decide +kernel
theorem dX5_noteHoursOver_34 : decode cX5_noteHoursOver 34 = .ok (.astore 5, 2) := by decide +kernel
theorem dX5_noteHoursOver_36 : decode cX5_noteHoursOver 36 = .ok (.aload 5, 2) := by decide +kernel
theorem dX5_noteHoursOver_38 : decode cX5_noteHoursOver 38 = .ok (.ifnull 21, 3) := by decide +kernel
theorem dX5_noteHoursOver_41 : decode cX5_noteHoursOver 41 = .ok (.aload 5, 2) := by decide +kernel
theorem dX5_noteHoursOver_43 : decode cX5_noteHoursOver 43 = .ok (.invokevirtual 240, 3) := by decide +kernel
theorem dX5_noteHoursOver_46 : decode cX5_noteHoursOver 46 = .ok (.ifCond .eq 13, 3) := by decide +kernel
theorem dX5_noteHoursOver_49 : decode cX5_noteHoursOver 49 = .ok (.aload_n 0, 1) := by decide +kernel
theorem dX5_noteHoursOver_50 : decode cX5_noteHoursOver 50 = .ok (.dup, 1) := by decide +kernel
theorem dX5_noteHoursOver_51 : decode cX5_noteHoursOver 51 = .ok (.getfield 266, 3) := by decide +kernel
theorem dX5_noteHoursOver_54 : decode cX5_noteHoursOver 54 = .ok (.lconst 1, 1) := by decide +kernel
theorem dX5_noteHoursOver_55 : decode cX5_noteHoursOver 55 = .ok (.ladd, 1) := by decide +kernel
theorem dX5_noteHoursOver_56 : decode cX5_noteHoursOver 56 = .ok (.putfield 266, 3) := by decide +kernel
theorem dX5_noteHoursOver_59 : decode cX5_noteHoursOver 59 = .ok (.iinc 3 1, 3) := by decide +kernel
theorem dX5_noteHoursOver_62 : decode cX5_noteHoursOver 62 = .ok (.goto (-52), 3) := by decide +kernel
theorem dX5_noteHoursOver_65 : decode cX5_noteHoursOver 65 = .ok (.return_, 1) := by decide +kernel
theorem dX5_goOnWithMoves_0 : decode cX5_goOnWithMoves 0 = .ok (.iconst 0, 1) := by decide +kernel
theorem dX5_goOnWithMoves_1 : decode cX5_goOnWithMoves 1 = .ok (.istore_n 1, 1) := by decide +kernel
theorem dX5_goOnWithMoves_2 : decode cX5_goOnWithMoves 2 = .ok (.aload_n 0, 1) := by decide +kernel
theorem dX5_goOnWithMoves_3 : decode cX5_goOnWithMoves 3 = .ok (.getfield 17, 3) := by decide +kernel
theorem dX5_goOnWithMoves_6 : decode cX5_goOnWithMoves 6 = .ok (.astore_n 2, 1) := by decide +kernel
theorem dX5_goOnWithMoves_7 : decode cX5_goOnWithMoves 7 = .ok (.aload_n 2, 1) := by decide +kernel
theorem dX5_goOnWithMoves_8 : decode cX5_goOnWithMoves 8 = .ok (.arraylength, 1) := by decide +kernel
theorem dX5_goOnWithMoves_9 : decode cX5_goOnWithMoves 9 = .ok (.istore_n 3, 1) := by decide +kernel
theorem dX5_goOnWithMoves_10 : decode cX5_goOnWithMoves 10 = .ok (.iconst 0, 1) := by decide +kernel
theorem dX5_goOnWithMoves_11 : decode cX5_goOnWithMoves 11 = .ok (.istore 4, 2) := by decide +kernel
theorem dX5_goOnWithMoves_13 : decode cX5_goOnWithMoves 13 = .ok (.iload 4, 2) := by decide +kernel
theorem dX5_goOnWithMoves_15 : decode cX5_goOnWithMoves 15 = .ok (.iload_n 3, 1) := by decide +kernel
theorem dX5_goOnWithMoves_16 : decode cX5_goOnWithMoves 16 = .ok (.if_icmp .ge 43, 3) := by decide +kernel
theorem dX5_goOnWithMoves_19 : decode cX5_goOnWithMoves 19 = .ok (.aload_n 2, 1) := by decide +kernel
theorem dX5_goOnWithMoves_20 : decode cX5_goOnWithMoves 20 = .ok (.iload 4, 2) := by decide +kernel
theorem dX5_goOnWithMoves_22 : decode cX5_goOnWithMoves 22 = .ok (.aaload, 1) := by decide +kernel
theorem dX5_goOnWithMoves_23 : decode cX5_goOnWithMoves 23 = .ok (.astore 5, 2) := by decide +kernel
theorem dX5_goOnWithMoves_25 : decode cX5_goOnWithMoves 25 = .ok (.aload 5, 2) := by decide +kernel
theorem dX5_goOnWithMoves_27 : decode cX5_goOnWithMoves 27 = .ok (.ifnull 26, 3) := by decide +kernel
theorem dX5_goOnWithMoves_30 : decode cX5_goOnWithMoves 30 = .ok (.aload 5, 2) := by decide +kernel
theorem dX5_goOnWithMoves_32 : decode cX5_goOnWithMoves 32 = .ok (.getfield 146, 3) := by decide +kernel
theorem dX5_goOnWithMoves_35 : decode cX5_goOnWithMoves 35 = .ok (.invokevirtual 155, 3) := by decide +kernel
theorem dX5_goOnWithMoves_38 : decode cX5_goOnWithMoves 38 = .ok (.ifCond .eq 15, 3) := by decide +kernel
theorem dX5_goOnWithMoves_41 : decode cX5_goOnWithMoves 41 = .ok (.aload_n 0, 1) := by decide +kernel
theorem dX5_goOnWithMoves_42 : decode cX5_goOnWithMoves 42 = .ok (.aload 5, 2) := by decide +kernel
theorem dX5_goOnWithMoves_44 : decode cX5_goOnWithMoves 44 = .ok (.invokevirtual 312, 3) := by decide +kernel
theorem dX5_goOnWithMoves_47 : decode cX5_goOnWithMoves 47 = .ok (.ifCond .eq 6, 3) := by decide +kernel
theorem dX5_goOnWithMoves_50 : decode cX5_goOnWithMoves 50 = .ok (.iinc 1 1, 3) := by decide +kernel
theorem dX5_goOnWithMoves_53 : decode cX5_goOnWithMoves 53 = .ok (.iinc 4 1, 3) := by decide +kernel
theorem dX5_goOnWithMoves_56 : decode cX5_goOnWithMoves 56 = .ok (.goto (-43), 3) := by decide +kernel
theorem dX5_goOnWithMoves_59 : decode cX5_goOnWithMoves 59 = .ok (.aload_n 0, 1) := by decide +kernel
theorem dX5_goOnWithMoves_60 : decode cX5_goOnWithMoves 60 = .ok (.dup, 1) := by decide +kernel
theorem dX5_goOnWithMoves_61 : decode cX5_goOnWithMoves 61 = .ok (.getfield 263, 3) := by decide +kernel
theorem dX5_goOnWithMoves_64 : decode cX5_goOnWithMoves 64 = .ok (.iload_n 1, 1) := by decide +kernel
theorem dX5_goOnWithMoves_65 : decode cX5_goOnWithMoves 65 = .ok (.iadd, 1) := by decide +kernel
theorem dX5_goOnWithMoves_66 : decode cX5_goOnWithMoves 66 = .ok (.putfield 263, 3) := by decide +kernel
theorem dX5_goOnWithMoves_69 : decode cX5_goOnWithMoves 69 = .ok (.iload_n 1, 1) := by decide +kernel
theorem dX5_goOnWithMoves_70 : decode cX5_goOnWithMoves 70 = .ok (.ireturn, 1) := by decide +kernel
theorem dX5_goOn_0 : decode cX5_goOn 0 = .ok (.aload_n 0, 1) := by decide +kernel
theorem dX5_goOn_1 : decode cX5_goOn 1 = .ok (.aload_n 1, 1) := by decide +kernel
theorem dX5_goOn_2 : decode cX5_goOn 2 = .ok (.iconst (-1), 1) := by decide +kernel
theorem dX5_goOn_3 : decode cX5_goOn 3 = .ok (.invokevirtual 95, 3) := by decide +kernel
theorem dX5_goOn_6 : decode cX5_goOn 6 = .ok (.aload_n 1, 1) := by decide +kernel
theorem dX5_goOn_7 : decode cX5_goOn 7 = .ok (.getfield 146, 3) := by decide +kernel
theorem dX5_goOn_10 : decode cX5_goOn 10 = .ok (.aload_n 1, 1) := by decide +kernel
theorem dX5_goOn_11 : decode cX5_goOn 11 = .ok (.aload_n 0, 1) := by decide +kernel
theorem dX5_goOn_12 : decode cX5_goOn 12 = .ok (.getfield 197, 3) := by decide +kernel
theorem dX5_goOn_15 : decode cX5_goOn 15 = .ok (.invokestatic 200, 3) := by decide +kernel
theorem dX5_goOn_18 : decode cX5_goOn 18 = .ok (.invokevirtual 226, 3) := by decide +kernel
theorem dX5_goOn_21 : decode cX5_goOn 21 = .ok (.invokevirtual 229, 3) := by decide +kernel
theorem dX5_goOn_24 : decode cX5_goOn 24 = .ok (.istore_n 2, 1) := by decide +kernel
theorem dX5_goOn_25 : decode cX5_goOn 25 = .ok (.iload_n 2, 1) := by decide +kernel
theorem dX5_goOn_26 : decode cX5_goOn 26 = .ok (.ifCond .eq 14, 3) := by decide +kernel
theorem dX5_goOn_29 : decode cX5_goOn 29 = .ok (.aload_n 1, 1) := by decide +kernel
theorem dX5_goOn_30 : decode cX5_goOn 30 = .ok (.aload_n 1, 1) := by decide +kernel
theorem dX5_goOn_31 : decode cX5_goOn 31 = .ok (.getfield 146, 3) := by decide +kernel
theorem dX5_goOn_34 : decode cX5_goOn 34 = .ok (.getfield 213, 3) := by decide +kernel
theorem dX5_goOn_37 : decode cX5_goOn 37 = .ok (.putfield 149, 3) := by decide +kernel
theorem dX5_goOn_40 : decode cX5_goOn 40 = .ok (.aload_n 0, 1) := by decide +kernel
theorem dX5_goOn_41 : decode cX5_goOn 41 = .ok (.aload_n 1, 1) := by decide +kernel
theorem dX5_goOn_42 : decode cX5_goOn 42 = .ok (.iconst 1, 1) := by decide +kernel
theorem dX5_goOn_43 : decode cX5_goOn 43 = .ok (.invokevirtual 95, 3) := by decide +kernel
theorem dX5_goOn_46 : decode cX5_goOn 46 = .ok (.iload_n 2, 1) := by decide +kernel
theorem dX5_goOn_47 : decode cX5_goOn 47 = .ok (.ireturn, 1) := by decide +kernel
theorem dX5_growStorage_0 : decode cX5_growStorage 0 = .ok (.aload_n 0, 1) := by decide +kernel
theorem dX5_growStorage_1 : decode cX5_growStorage 1 = .ok (.getfield 17, 3) := by decide +kernel
theorem dX5_growStorage_4 : decode cX5_growStorage 4 = .ok (.astore_n 1, 1) := by decide +kernel
theorem dX5_growStorage_5 : decode cX5_growStorage 5 = .ok (.aload_n 1, 1) := by decide +kernel
theorem dX5_growStorage_6 : decode cX5_growStorage 6 = .ok (.arraylength, 1) := by decide +kernel
theorem dX5_growStorage_7 : decode cX5_growStorage 7 = .ok (.istore_n 2, 1) := by decide +kernel
theorem dX5_growStorage_8 : decode cX5_growStorage 8 = .ok (.iconst 0, 1) := by decide +kernel
theorem dX5_growStorage_9 : decode cX5_growStorage 9 = .ok (.istore_n 3, 1) := by decide +kernel
theorem dX5_growStorage_10 : decode cX5_growStorage 10 = .ok (.iload_n 3, 1) := by decide +kernel
theorem dX5_growStorage_11 : decode cX5_growStorage 11 = .ok (.iload_n 2, 1) := by decide +kernel
theorem dX5_growStorage_12 : decode cX5_growStorage 12 = .ok (.if_icmp .ge 67, 3) := by decide +kernel
theorem dX5_growStorage_15 : decode cX5_growStorage 15 = .ok (.aload_n 1, 1) := by decide +kernel
theorem dX5_growStorage_16 : decode cX5_growStorage 16 = .ok (.iload_n 3, 1) := by decide +kernel
theorem dX5_growStorage_17 : decode cX5_growStorage 17 = .ok (.aaload, 1) := by decide +kernel
theorem dX5_growStorage_18 : decode cX5_growStorage 18 = .ok (.astore 4, 2) := by decide +kernel
theorem dX5_growStorage_20 : decode cX5_growStorage 20 = .ok (.aload 4, 2) := by decide +kernel
theorem dX5_growStorage_22 : decode cX5_growStorage 22 = .ok (.ifnull 51, 3) := by decide +kernel
theorem dX5_growStorage_25 : decode cX5_growStorage 25 = .ok (.aload_n 0, 1) := by decide +kernel
theorem dX5_growStorage_26 : decode cX5_growStorage 26 = .ok (.aload 4, 2) := by decide +kernel
theorem dX5_growStorage_28 : decode cX5_growStorage 28 = .ok (.iconst (-1), 1) := by decide +kernel
theorem dX5_growStorage_29 : decode cX5_growStorage 29 = .ok (.invokevirtual 95, 3) := by decide +kernel
theorem dX5_growStorage_32 : decode cX5_growStorage 32 = .ok (.aload 4, 2) := by decide +kernel
theorem dX5_growStorage_34 : decode cX5_growStorage 34 = .ok (.getfield 103, 3) := by decide +kernel
theorem dX5_growStorage_37 : decode cX5_growStorage 37 = .ok (.iconst 0, 1) := by decide +kernel
theorem dX5_growStorage_38 : decode cX5_growStorage 38 = .ok (.invokevirtual 68, 3) := by decide +kernel
theorem dX5_growStorage_41 : decode cX5_growStorage 41 = .ok (.aload 4, 2) := by decide +kernel
theorem dX5_growStorage_43 : decode cX5_growStorage 43 = .ok (.getfield 314, 3) := by decide +kernel
theorem dX5_growStorage_46 : decode cX5_growStorage 46 = .ok (.iadd, 1) := by decide +kernel
theorem dX5_growStorage_47 : decode cX5_growStorage 47 = .ok (.istore 5, 2) := by decide +kernel
theorem dX5_growStorage_49 : decode cX5_growStorage 49 = .ok (.aload 4, 2) := by decide +kernel
theorem dX5_growStorage_51 : decode cX5_growStorage 51 = .ok (.getfield 103, 3) := by decide +kernel
theorem dX5_growStorage_54 : decode cX5_growStorage 54 = .ok (.iconst 0, 1) := by decide +kernel
theorem dX5_growStorage_55 : decode cX5_growStorage 55 = .ok (.iload 5, 2) := by decide +kernel
theorem dX5_growStorage_57 : decode cX5_growStorage 57 = .ok (.sipush 999, 3) := by decide +kernel
theorem dX5_growStorage_60 : decode cX5_growStorage 60 = .ok (.invokestatic 317, 3) := by decide +kernel
theorem dX5_growStorage_63 : decode cX5_growStorage 63 = .ok (.invokevirtual 74, 3) := by decide +kernel
theorem dX5_growStorage_66 : decode cX5_growStorage 66 = .ok (.aload_n 0, 1) := by decide +kernel
theorem dX5_growStorage_67 : decode cX5_growStorage 67 = .ok (.aload 4, 2) := by decide +kernel
theorem dX5_growStorage_69 : decode cX5_growStorage 69 = .ok (.iconst 1, 1) := by decide +kernel
theorem dX5_growStorage_70 : decode cX5_growStorage 70 = .ok (.invokevirtual 95, 3) := by decide +kernel
theorem dX5_growStorage_73 : decode cX5_growStorage 73 = .ok (.iinc 3 1, 3) := by decide +kernel
theorem dX5_growStorage_76 : decode cX5_growStorage 76 = .ok (.goto (-66), 3) := by decide +kernel
theorem dX5_growStorage_79 : decode cX5_growStorage 79 = .ok (.return_, 1) := by decide +kernel
theorem dX6_init_0 : decode cX6_init 0 = .ok (.aload_n 0, 1) := by decide +kernel
theorem dX6_init_1 : decode cX6_init 1 = .ok (.invokespecial 1, 3) := by decide +kernel
theorem dX6_init_4 : decode cX6_init 4 = .ok (.aload_n 0, 1) := by decide +kernel
theorem dX6_init_5 : decode cX6_init 5 = .ok (.bipush 12, 2) := by decide +kernel
theorem dX6_init_7 : decode cX6_init 7 = .ok (.newarray .int, 2) := by decide +kernel
theorem dX6_init_9 : decode cX6_init 9 = .ok (.putfield 7, 3) := by decide +kernel
theorem dX6_init_12 : decode cX6_init 12 = .ok (.aload_n 0, 1) := by decide +kernel
theorem dX6_init_13 : decode cX6_init 13 = .ok (.iconst 4, 1) := by decide +kernel
theorem dX6_init_14 : decode cX6_init 14 = .ok (.newarray .boolean, 2) := by decide +kernel
theorem dX6_init_16 : decode cX6_init 16 = .ok (.putfield 13, 3) := by decide +kernel
theorem dX6_init_19 : decode cX6_init 19 = .ok (.aload_n 0, 1) := by decide +kernel
theorem dX6_init_20 : decode cX6_init 20 = .ok (.bipush 18, 2) := by decide +kernel
theorem dX6_init_22 : decode cX6_init 22 = .ok (.newarray .int, 2) := by decide +kernel
theorem dX6_init_24 : decode cX6_init 24 = .ok (.putfield 17, 3) := by decide +kernel
theorem dX6_init_27 : decode cX6_init 27 = .ok (.aload_n 0, 1) := by decide +kernel
theorem dX6_init_28 : decode cX6_init 28 = .ok (.bipush 6, 2) := by decide +kernel
theorem dX6_init_30 : decode cX6_init 30 = .ok (.newarray .int, 2) := by decide +kernel
theorem dX6_init_32 : decode cX6_init 32 = .ok (.putfield 20, 3) := by decide +kernel
theorem dX6_init_35 : decode cX6_init 35 = .ok (.aload_n 0, 1) := by decide +kernel
theorem dX6_init_36 : decode cX6_init 36 = .ok (.bipush 6, 2) := by decide +kernel
theorem dX6_init_38 : decode cX6_init 38 = .ok (.newarray .int, 2) := by decide +kernel
theorem dX6_init_40 : decode cX6_init 40 = .ok (.putfield 23, 3) := by decide +kernel
theorem dX6_init_43 : decode cX6_init 43 = .ok (.aload_n 0, 1) := by decide +kernel
theorem dX6_init_44 : decode cX6_init 44 = .ok (.bipush 6, 2) := by decide +kernel
theorem dX6_init_46 : decode cX6_init 46 = .ok (.newarray .int, 2) := by decide +kernel
theorem dX6_init_48 : decode cX6_init 48 = .ok (.putfield 26, 3) := by decide +kernel
theorem dX6_init_51 : decode cX6_init 51 = .ok (.aload_n 0, 1) := by decide +kernel
theorem dX6_init_52 : decode cX6_init 52 = .ok (.bipush 6, 2) := by decide +kernel
theorem dX6_init_54 : decode cX6_init 54 = .ok (.newarray .int, 2) := by decide +kernel
theorem dX6_init_56 : decode cX6_init 56 = .ok (.putfield 29, 3) := by decide +kernel
theorem dX6_init_59 : decode cX6_init 59 = .ok (.aload_n 0, 1) := by decide +kernel
theorem dX6_init_60 : decode cX6_init 60 = .ok (.bipush 6, 2) := by decide +kernel
theorem dX6_init_62 : decode cX6_init 62 = .ok (.newarray .int, 2) := by decide +kernel
theorem dX6_init_64 : decode cX6_init 64 = .ok (.putfield 32, 3) := by decide +kernel
theorem dX6_init_67 : decode cX6_init 67 = .ok (.aload_n 0, 1) := by decide +kernel
theorem dX6_init_68 : decode cX6_init 68 = .ok (.bipush 6, 2) := by decide +kernel
theorem dX6_init_70 : decode cX6_init 70 = .ok (.newarray .int, 2) := by decide +kernel
theorem dX6_init_72 : decode cX6_init 72 = .ok (.putfield 35, 3) := by decide +kernel
theorem dX6_init_75 : decode cX6_init 75 = .ok (.aload_n 0, 1) := by decide +kernel
theorem dX6_init_76 : decode cX6_init 76 = .ok (.bipush 6, 2) := by decide +kernel
theorem dX6_init_78 : decode cX6_init 78 = .ok (.newarray .int, 2) := by decide +kernel
theorem dX6_init_80 : decode cX6_init 80 = .ok (.putfield 38, 3) := by decide +kernel
theorem dX6_init_83 : decode cX6_init 83 = .ok (.aload_n 0, 1) := by decide +kernel
theorem dX6_init_84 : decode cX6_init 84 = .ok (.bipush 6, 2) := by decide +kernel
theorem dX6_init_86 : decode cX6_init 86 = .ok (.newarray .int, 2) := by decide +kernel
theorem dX6_init_88 : decode cX6_init 88 = .ok (.putfield 41, 3) := by decide +kernel
theorem dX6_init_91 : decode cX6_init 91 = .ok (.aload_n 0, 1) := by decide +kernel
theorem dX6_init_92 : decode cX6_init 92 = .ok (.bipush 6, 2) := by decide +kernel
theorem dX6_init_94 : decode cX6_init 94 = .ok (.newarray .int, 2) := by decide +kernel
theorem dX6_init_96 : decode cX6_init 96 = .ok (.putfield 44, 3) := by decide +kernel
theorem dX6_init_99 : decode cX6_init 99 = .ok (.aload_n 0, 1) := by decide +kernel
theorem dX6_init_100 : decode cX6_init 100 = .ok (.bipush 6, 2) := by decide +kernel
theorem dX6_init_102 : decode cX6_init 102 = .ok (.newarray .int, 2) := by decide +kernel
theorem dX6_init_104 : decode cX6_init 104 = .ok (.putfield 47, 3) := by decide +kernel
theorem dX6_init_107 : decode cX6_init 107 = .ok (.aload_n 0, 1) := by decide +kernel
theorem dX6_init_108 : decode cX6_init 108 = .ok (.bipush 6, 2) := by decide +kernel
theorem dX6_init_110 : decode cX6_init 110 = .ok (.newarray .int, 2) := by decide +kernel
theorem dX6_init_112 : decode cX6_init 112 = .ok (.putfield 50, 3) := by decide +kernel
theorem dX6_init_115 : decode cX6_init 115 = .ok (.aload_n 0, 1) := by decide +kernel
theorem dX6_init_116 : decode cX6_init 116 = .ok (.bipush 6, 2) := by decide +kernel
theorem dX6_init_118 : decode cX6_init 118 = .ok (.newarray .int, 2) := by decide +kernel
theorem dX6_init_120 : decode cX6_init 120 = .ok (.putfield 53, 3) := by decide +kernel
theorem dX6_init_123 : decode cX6_init 123 = .ok (.return_, 1) := by decide +kernel
theorem dX6_thrown_0 : decode cX6_thrown 0 = .ok (.aload_n 0, 1) := by decide +kernel
theorem dX6_thrown_1 : decode cX6_thrown 1 = .ok (.getfield 56, 3) := by decide +kernel
theorem dX6_thrown_4 : decode cX6_thrown 4 = .ok (.ireturn, 1) := by decide +kernel
theorem dX6_fails_0 : decode cX6_fails 0 = .ok (.aload_n 0, 1) := by decide +kernel
theorem dX6_fails_1 : decode cX6_fails 1 = .ok (.iload_n 1, 1) := by decide +kernel
theorem dX6_fails_2 : decode cX6_fails 2 = .ok (.putfield 56, 3) := by decide +kernel
theorem dX6_fails_5 : decode cX6_fails 5 = .ok (.iload_n 1, 1) := by decide +kernel
theorem dX6_fails_6 : decode cX6_fails 6 = .ok (.ifCond .le 7, 3) := by decide +kernel
theorem dX6_fails_9 : decode cX6_fails 9 = .ok (.iconst 1, 1) := by decide +kernel
theorem dX6_fails_10 : decode cX6_fails 10 = .ok (.goto 4, 3) := by decide +kernel
theorem dX6_fails_13 : decode cX6_fails 13 = .ok (.iconst 0, 1) := by decide +kernel
theorem dX6_fails_14 : decode cX6_fails 14 = .ok (.ireturn, 1) := by decide +kernel
theorem dX6_tells_0 : decode cX6_tells 0 = .ok (.aload_n 0, 1) := by decide +kernel
theorem dX6_tells_1 : decode cX6_tells 1 = .ok (.iconst 0, 1) := by decide +kernel
theorem dX6_tells_2 : decode cX6_tells 2 = .ok (.putfield 56, 3) := by decide +kernel
theorem dX6_tells_5 : decode cX6_tells 5 = .ok (.iload_n 1, 1) := by decide +kernel
theorem dX6_tells_6 : decode cX6_tells 6 = .ok (.ireturn, 1) := by decide +kernel
theorem dX6_in_0 : decode cX6_in 0 = .ok (.iload_n 0, 1) := by decide +kernel
theorem dX6_in_1 : decode cX6_in 1 = .ok (.iload_n 1, 1) := by decide +kernel
theorem dX6_in_2 : decode cX6_in 2 = .ok (.if_icmp .lt 12, 3) := by decide +kernel
theorem dX6_in_5 : decode cX6_in 5 = .ok (.iload_n 0, 1) := by decide +kernel
theorem dX6_in_6 : decode cX6_in 6 = .ok (.iload_n 2, 1) := by decide +kernel
theorem dX6_in_7 : decode cX6_in 7 = .ok (.if_icmp .gt 7, 3) := by decide +kernel
theorem dX6_in_10 : decode cX6_in 10 = .ok (.iconst 1, 1) := by decide +kernel
theorem dX6_in_11 : decode cX6_in 11 = .ok (.goto 4, 3) := by decide +kernel
theorem dX6_in_14 : decode cX6_in 14 = .ok (.iconst 0, 1) := by decide +kernel
theorem dX6_in_15 : decode cX6_in 15 = .ok (.ireturn, 1) := by decide +kernel
theorem dX6_isNoShard_0 : decode cX6_isNoShard 0 = .ok (.iload_n 1, 1) := by decide +kernel
theorem dX6_isNoShard_1 : decode cX6_isNoShard 1 = .ok (.iconst 0, 1) := by decide +kernel
theorem dX6_isNoShard_2 : decode cX6_isNoShard 2 = .ok (.aload_n 0, 1) := by decide +kernel
theorem dX6_isNoShard_3 : decode cX6_isNoShard 3 = .ok (.getfield 60, 3) := by decide +kernel
theorem dX6_isNoShard_6 : decode cX6_isNoShard 6 = .ok (.iconst 1, 1) := by decide +kernel
theorem dX6_isNoShard_7 : decode cX6_isNoShard 7 = .ok (.isub, 1) := by decide +kernel
theorem dX6_isNoShard_8 : decode cX6_isNoShard 8 = .ok (.invokestatic 63, 3) := by decide +kernel
theorem dX6_isNoShard_11 : decode cX6_isNoShard 11 = .ok (.ifCond .ne 7, 3) := by decide +kernel
theorem dX6_isNoShard_14 : decode cX6_isNoShard 14 = .ok (.iconst 1, 1) := by decide +kernel
theorem dX6_isNoShard_15 : decode cX6_isNoShard 15 = .ok (.goto 4, 3) := by decide +kernel
theorem dX6_isNoShard_18 : decode cX6_isNoShard 18 = .ok (.iconst 0, 1) := by decide +kernel
theorem dX6_isNoShard_19 : decode cX6_isNoShard 19 = .ok (.ireturn, 1) := by decide +kernel
theorem dX6_isNoTenant_0 : decode cX6_isNoTenant 0 = .ok (.iload_n 1, 1) := by decide +kernel
theorem dX6_isNoTenant_1 : decode cX6_isNoTenant 1 = .ok (.iconst 0, 1) := by decide +kernel
theorem dX6_isNoTenant_2 : decode cX6_isNoTenant 2 = .ok (.aload_n 0, 1) := by decide +kernel
theorem dX6_isNoTenant_3 : decode cX6_isNoTenant 3 = .ok (.getfield 67, 3) := by decide +kernel
theorem dX6_isNoTenant_6 : decode cX6_isNoTenant 6 = .ok (.iconst 1, 1) := by decide +kernel
theorem dX6_isNoTenant_7 : decode cX6_isNoTenant 7 = .ok (.isub, 1) := by decide +kernel
theorem dX6_isNoTenant_8 : decode cX6_isNoTenant 8 = .ok (.invokestatic 63, 3) := by decide +kernel
theorem dX6_isNoTenant_11 : decode cX6_isNoTenant 11 = .ok (.ifCond .ne 7, 3) := by decide +kernel
theorem dX6_isNoTenant_14 : decode cX6_isNoTenant 14 = .ok (.iconst 1, 1) := by decide +kernel
theorem dX6_isNoTenant_15 : decode cX6_isNoTenant 15 = .ok (.goto 4, 3) := by decide +kernel
theorem dX6_isNoTenant_18 : decode cX6_isNoTenant 18 = .ok (.iconst 0, 1) := by decide +kernel
theorem dX6_isNoTenant_19 : decode cX6_isNoTenant 19 = .ok (.ireturn, 1) := by decide +kernel
theorem dX6_isMeasure_0 : decode cX6_isMeasure 0 = .ok (.iload_n 0, 1) := by decide +kernel
theorem dX6_isMeasure_1 : decode cX6_isMeasure 1 = .ok (.iconst 0, 1) := by decide +kernel
theorem dX6_isMeasure_2 : decode cX6_isMeasure 2 = .ok (.iconst 2, 1) := by decide +kernel
theorem dX6_isMeasure_3 : decode cX6_isMeasure 3 = .ok (.invokestatic 63, 3) := by decide +kernel
theorem dX6_isMeasure_6 : decode cX6_isMeasure 6 = .ok (.ireturn, 1) := by decide +kernel
theorem dX6_addShard_0 : decode cX6_addShard 0 = .ok (.aload_n 0, 1) := by decide +kernel
theorem dX6_addShard_1 : decode cX6_addShard 1 = .ok (.iload_n 1, 1) := by decide +kernel
theorem dX6_addShard_2 : decode cX6_addShard 2 = .ok (.iconst 1, 1) := by decide +kernel
theorem dX6_addShard_3 : decode cX6_addShard 3 = .ok (.sipush 300, 3) := by decide +kernel
theorem dX6_addShard_6 : decode cX6_addShard 6 = .ok (.invokestatic 63, 3) := by decide +kernel
theorem dX6_addShard_9 : decode cX6_addShard 9 = .ok (.ifCond .eq 25, 3) := by decide +kernel
theorem dX6_addShard_12 : decode cX6_addShard 12 = .ok (.iload_n 2, 1) := by decide +kernel
theorem dX6_addShard_13 : decode cX6_addShard 13 = .ok (.iconst 1, 1) := by decide +kernel
theorem dX6_addShard_14 : decode cX6_addShard 14 = .ok (.sipush 300, 3) := by decide +kernel
theorem dX6_addShard_17 : decode cX6_addShard 17 = .ok (.invokestatic 63, 3) := by decide +kernel
theorem dX6_addShard_20 : decode cX6_addShard 20 = .ok (.ifCond .eq 14, 3) := by decide +kernel
theorem dX6_addShard_23 : decode cX6_addShard 23 = .ok (.iload_n 3, 1) := by decide +kernel
theorem dX6_addShard_24 : decode cX6_addShard 24 = .ok (.iconst 1, 1) := by decide +kernel
theorem dX6_addShard_25 : decode cX6_addShard 25 = .ok (.sipush 300, 3) := by decide +kernel
theorem dX6_addShard_28 : decode cX6_addShard 28 = .ok (.invokestatic 63, 3) := by decide +kernel
theorem dX6_addShard_31 : decode cX6_addShard 31 = .ok (.ifCond .ne 7, 3) := by decide +kernel
theorem dX6_addShard_34 : decode cX6_addShard 34 = .ok (.iconst 1, 1) := by decide +kernel
theorem dX6_addShard_35 : decode cX6_addShard 35 = .ok (.goto 16, 3) := by decide +kernel
theorem dX6_addShard_38 : decode cX6_addShard 38 = .ok (.aload_n 0, 1) := by decide +kernel
theorem dX6_addShard_39 : decode cX6_addShard 39 = .ok (.getfield 60, 3) := by decide +kernel
theorem dX6_addShard_42 : decode cX6_addShard 42 = .ok (.iconst 4, 1) := by decide +kernel
theorem dX6_addShard_43 : decode cX6_addShard 43 = .ok (.if_icmp .ne 7, 3) := by decide +kernel
theorem dX6_addShard_46 : decode cX6_addShard 46 = .ok (.iconst 2, 1) := by decide +kernel
theorem dX6_addShard_47 : decode cX6_addShard 47 = .ok (.goto 4, 3) := by decide +kernel
theorem dX6_addShard_50 : decode cX6_addShard 50 = .ok (.iconst 0, 1) := by decide +kernel
theorem dX6_addShard_51 : decode cX6_addShard 51 = .ok (.invokevirtual 70, 3) := by decide +kernel
theorem dX6_addShard_54 : decode cX6_addShard 54 = .ok (.ifCond .eq 5, 3) := by decide +kernel
theorem dX6_addShard_57 : decode cX6_addShard 57 = .ok (.iconst 0, 1) := by decide +kernel
theorem dX6_addShard_58 : decode cX6_addShard 58 = .ok (.ireturn, 1) := by decide +kernel
theorem dX6_addShard_59 : decode cX6_addShard 59 = .ok (.aload_n 0, 1) := by decide +kernel
theorem dX6_addShard_60 : decode cX6_addShard 60 = .ok (.getfield 7, 3) := by decide +kernel
theorem dX6_addShard_63 : decode cX6_addShard 63 = .ok (.iconst 3, 1) := by decide +kernel
theorem dX6_addShard_64 : decode cX6_addShard 64 = .ok (.aload_n 0, 1) := by decide +kernel
theorem dX6_addShard_65 : decode cX6_addShard 65 = .ok (.getfield 60, 3) := by decide +kernel
theorem dX6_addShard_68 : decode cX6_addShard 68 = .ok (.imul, 1) := by decide +kernel
theorem dX6_addShard_69 : decode cX6_addShard 69 = .ok (.iload_n 1, 1) := by decide +kernel
theorem dX6_addShard_70 : decode cX6_addShard 70 = .ok (.iastore, 1) := by decide +kernel
theorem dX6_addShard_71 : decode cX6_addShard 71 = .ok (.aload_n 0, 1) := by decide +kernel
theorem dX6_addShard_72 : decode cX6_addShard 72 = .ok (.getfield 7, 3) := by decide +kernel
theorem dX6_addShard_75 : decode cX6_addShard 75 = .ok (.iconst 3, 1) := by decide +kernel
theorem dX6_addShard_76 : decode cX6_addShard 76 = .ok (.aload_n 0, 1) := by decide +kernel
theorem dX6_addShard_77 : decode cX6_addShard 77 = .ok (.getfield 60, 3) := by decide +kernel
theorem dX6_addShard_80 : decode cX6_addShard 80 = .ok (.imul, 1) := by decide +kernel
theorem dX6_addShard_81 : decode cX6_addShard 81 = .ok (.iconst 1, 1) := by decide +kernel
theorem dX6_addShard_82 : decode cX6_addShard 82 = .ok (.iadd, 1) := by decide +kernel
theorem dX6_addShard_83 : decode cX6_addShard 83 = .ok (.iload_n 2, 1) := by decide +kernel
theorem dX6_addShard_84 : decode cX6_addShard 84 = .ok (.iastore, 1) := by decide +kernel
theorem dX6_addShard_85 : decode cX6_addShard 85 = .ok (.aload_n 0, 1) := by decide +kernel
theorem dX6_addShard_86 : decode cX6_addShard 86 = .ok (.getfield 7, 3) := by decide +kernel
theorem dX6_addShard_89 : decode cX6_addShard 89 = .ok (.iconst 3, 1) := by decide +kernel
theorem dX6_addShard_90 : decode cX6_addShard 90 = .ok (.aload_n 0, 1) := by decide +kernel
theorem dX6_addShard_91 : decode cX6_addShard 91 = .ok (.getfield 60, 3) := by decide +kernel
theorem dX6_addShard_94 : decode cX6_addShard 94 = .ok (.imul, 1) := by decide +kernel
theorem dX6_addShard_95 : decode cX6_addShard 95 = .ok (.iconst 2, 1) := by decide +kernel
theorem dX6_addShard_96 : decode cX6_addShard 96 = .ok (.iadd, 1) := by decide +kernel
theorem dX6_addShard_97 : decode cX6_addShard 97 = .ok (.iload_n 3, 1) := by decide +kernel
theorem dX6_addShard_98 : decode cX6_addShard 98 = .ok (.iastore, 1) := by decide +kernel
theorem dX6_addShard_99 : decode cX6_addShard 99 = .ok (.aload_n 0, 1) := by decide +kernel
theorem dX6_addShard_100 : decode cX6_addShard 100 = .ok (.dup, 1) := by decide +kernel
theorem dX6_addShard_101 : decode cX6_addShard 101 = .ok (.getfield 60, 3) := by decide +kernel
theorem dX6_addShard_104 : decode cX6_addShard 104 = .ok (.iconst 1, 1) := by decide +kernel
theorem dX6_addShard_105 : decode cX6_addShard 105 = .ok (.iadd, 1) := by decide +kernel
theorem dX6_addShard_106 : decode cX6_addShard 106 = .ok (.putfield 60, 3) := by decide +kernel
theorem dX6_addShard_109 : decode cX6_addShard 109 = .ok (.aload_n 0, 1) := by decide +kernel
theorem dX6_addShard_110 : decode cX6_addShard 110 = .ok (.getfield 60, 3) := by decide +kernel
theorem dX6_addShard_113 : decode cX6_addShard 113 = .ok (.iconst 1, 1) := by decide +kernel
theorem dX6_addShard_114 : decode cX6_addShard 114 = .ok (.isub, 1) := by decide +kernel
theorem dX6_addShard_115 : decode cX6_addShard 115 = .ok (.ireturn, 1) := by decide +kernel
theorem dX6_setOpen_0 : decode cX6_setOpen 0 = .ok (.aload_n 0, 1) := by decide +kernel
theorem dX6_setOpen_1 : decode cX6_setOpen 1 = .ok (.aload_n 0, 1) := by decide +kernel
theorem dX6_setOpen_2 : decode cX6_setOpen 2 = .ok (.iload_n 1, 1) := by decide +kernel
theorem dX6_setOpen_3 : decode cX6_setOpen 3 = .ok (.invokevirtual 74, 3) := by decide +kernel
theorem dX6_setOpen_6 : decode cX6_setOpen 6 = .ok (.ifCond .eq 7, 3) := by decide +kernel
theorem dX6_setOpen_9 : decode cX6_setOpen 9 = .ok (.iconst 1, 1) := by decide +kernel
theorem dX6_setOpen_10 : decode cX6_setOpen 10 = .ok (.goto 4, 3) := by decide +kernel
theorem dX6_setOpen_13 : decode cX6_setOpen 13 = .ok (.iconst 0, 1) := by decide +kernel
theorem dX6_setOpen_14 : decode cX6_setOpen 14 = .ok (.invokevirtual 70, 3) := by decide +kernel
theorem dX6_setOpen_17 : decode cX6_setOpen 17 = .ok (.ifCond .eq 5, 3) := by decide +kernel
theorem dX6_setOpen_20 : decode cX6_setOpen 20 = .ok (.iconst 0, 1) := by decide +kernel
theorem dX6_setOpen_21 : decode cX6_setOpen 21 = .ok (.ireturn, 1) := by decide +kernel
theorem dX6_setOpen_22 : decode cX6_setOpen 22 = .ok (.aload_n 0, 1) := by decide +kernel
theorem dX6_setOpen_23 : decode cX6_setOpen 23 = .ok (.getfield 13, 3) := by decide +kernel
theorem dX6_setOpen_26 : decode cX6_setOpen 26 = .ok (.iload_n 1, 1) := by decide +kernel
theorem dX6_setOpen_27 : decode cX6_setOpen 27 = .ok (.baload, 1) := by decide +kernel
theorem dX6_setOpen_28 : decode cX6_setOpen 28 = .ok (.ifCond .ne 7, 3) := by decide +kernel
theorem dX6_setOpen_31 : decode cX6_setOpen 31 = .ok (.iconst 1, 1) := by decide +kernel
theorem dX6_setOpen_32 : decode cX6_setOpen 32 = .ok (.goto 4, 3) := by decide +kernel
theorem dX6_setOpen_35 : decode cX6_setOpen 35 = .ok (.iconst 0, 1) := by decide +kernel
theorem dX6_setOpen_36 : decode cX6_setOpen 36 = .ok (.istore_n 3, 1) := by decide +kernel
theorem dX6_setOpen_37 : decode cX6_setOpen 37 = .ok (.aload_n 0, 1) := by decide +kernel
theorem dX6_setOpen_38 : decode cX6_setOpen 38 = .ok (.getfield 13, 3) := by decide +kernel
theorem dX6_setOpen_41 : decode cX6_setOpen 41 = .ok (.iload_n 1, 1) := by decide +kernel
theorem dX6_setOpen_42 : decode cX6_setOpen 42 = .ok (.iload_n 2, 1) := by decide +kernel
theorem dX6_setOpen_43 : decode cX6_setOpen 43 = .ok (.ifCond .ne 7, 3) := by decide +kernel
theorem dX6_setOpen_46 : decode cX6_setOpen 46 = .ok (.iconst 1, 1) := by decide +kernel
theorem dX6_setOpen_47 : decode cX6_setOpen 47 = .ok (.goto 4, 3) := by decide +kernel
theorem dX6_setOpen_50 : decode cX6_setOpen 50 = .ok (.iconst 0, 1) := by decide +kernel
theorem dX6_setOpen_51 : decode cX6_setOpen 51 = .ok (.bastore, 1) := by decide +kernel
theorem dX6_setOpen_52 : decode cX6_setOpen 52 = .ok (.iload_n 3, 1) := by decide +kernel
theorem dX6_setOpen_53 : decode cX6_setOpen 53 = .ok (.ireturn, 1) := by decide +kernel
theorem dX6_setLimit_0 : decode cX6_setLimit 0 = .ok (.aload_n 0, 1) := by decide +kernel
theorem dX6_setLimit_1 : decode cX6_setLimit 1 = .ok (.aload_n 0, 1) := by decide +kernel
theorem dX6_setLimit_2 : decode cX6_setLimit 2 = .ok (.iload_n 1, 1) := by decide +kernel
theorem dX6_setLimit_3 : decode cX6_setLimit 3 = .ok (.invokevirtual 74, 3) := by decide +kernel
theorem dX6_setLimit_6 : decode cX6_setLimit 6 = .ok (.ifCond .ne 10, 3) := by decide +kernel
theorem dX6_setLimit_9 : decode cX6_setLimit 9 = .ok (.iload_n 2, 1) := by decide +kernel
theorem dX6_setLimit_10 : decode cX6_setLimit 10 = .ok (.invokestatic 77, 3) := by decide +kernel
theorem dX6_setLimit_13 : decode cX6_setLimit 13 = .ok (.ifCond .ne 7, 3) := by decide +kernel
theorem dX6_setLimit_16 : decode cX6_setLimit 16 = .ok (.iconst 1, 1) := by decide +kernel
theorem dX6_setLimit_17 : decode cX6_setLimit 17 = .ok (.goto 19, 3) := by decide +kernel
theorem dX6_setLimit_20 : decode cX6_setLimit 20 = .ok (.iload_n 3, 1) := by decide +kernel
theorem dX6_setLimit_21 : decode cX6_setLimit 21 = .ok (.iconst 1, 1) := by decide +kernel
theorem dX6_setLimit_22 : decode cX6_setLimit 22 = .ok (.sipush 300, 3) := by decide +kernel
theorem dX6_setLimit_25 : decode cX6_setLimit 25 = .ok (.invokestatic 63, 3) := by decide +kernel
theorem dX6_setLimit_28 : decode cX6_setLimit 28 = .ok (.ifCond .eq 7, 3) := by decide +kernel
theorem dX6_setLimit_31 : decode cX6_setLimit 31 = .ok (.iconst 0, 1) := by decide +kernel
theorem dX6_setLimit_32 : decode cX6_setLimit 32 = .ok (.goto 4, 3) := by decide +kernel
theorem dX6_setLimit_35 : decode cX6_setLimit 35 = .ok (.iconst 2, 1) := by decide +kernel
theorem dX6_setLimit_36 : decode cX6_setLimit 36 = .ok (.invokevirtual 70, 3) := by decide +kernel
theorem dX6_setLimit_39 : decode cX6_setLimit 39 = .ok (.ifCond .eq 5, 3) := by decide +kernel
theorem dX6_setLimit_42 : decode cX6_setLimit 42 = .ok (.iconst 0, 1) := by decide +kernel
theorem dX6_setLimit_43 : decode cX6_setLimit 43 = .ok (.ireturn, 1) := by decide +kernel
theorem dX6_setLimit_44 : decode cX6_setLimit 44 = .ok (.aload_n 0, 1) := by decide +kernel
theorem dX6_setLimit_45 : decode cX6_setLimit 45 = .ok (.getfield 7, 3) := by decide +kernel
theorem dX6_setLimit_48 : decode cX6_setLimit 48 = .ok (.iconst 3, 1) := by decide +kernel
theorem dX6_setLimit_49 : decode cX6_setLimit 49 = .ok (.iload_n 1, 1) := by decide +kernel
theorem dX6_setLimit_50 : decode cX6_setLimit 50 = .ok (.imul, 1) := by decide +kernel
theorem dX6_setLimit_51 : decode cX6_setLimit 51 = .ok (.iload_n 2, 1) := by decide +kernel
theorem dX6_setLimit_52 : decode cX6_setLimit 52 = .ok (.iadd, 1) := by decide +kernel
theorem dX6_setLimit_53 : decode cX6_setLimit 53 = .ok (.iaload, 1) := by decide +kernel
theorem dX6_setLimit_54 : decode cX6_setLimit 54 = .ok (.istore 4, 2) := by decide +kernel
theorem dX6_setLimit_56 : decode cX6_setLimit 56 = .ok (.aload_n 0, 1) := by decide +kernel
theorem dX6_setLimit_57 : decode cX6_setLimit 57 = .ok (.getfield 7, 3) := by decide +kernel
theorem dX6_setLimit_60 : decode cX6_setLimit 60 = .ok (.iconst 3, 1) := by decide +kernel
theorem dX6_setLimit_61 : decode cX6_setLimit 61 = .ok (.iload_n 1, 1) := by decide +kernel
theorem dX6_setLimit_62 : decode cX6_setLimit 62 = .ok (.imul, 1) := by decide +kernel
theorem dX6_setLimit_63 : decode cX6_setLimit 63 = .ok (.iload_n 2, 1) := by decide +kernel
theorem dX6_setLimit_64 : decode cX6_setLimit 64 = .ok (.iadd, 1) := by decide +kernel
theorem dX6_setLimit_65 : decode cX6_setLimit 65 = .ok (.iload_n 3, 1) := by decide +kernel
theorem dX6_setLimit_66 : decode cX6_setLimit 66 = .ok (.iastore, 1) := by decide +kernel
theorem dX6_setLimit_67 : decode cX6_setLimit 67 = .ok (.iload 4, 2) := by decide +kernel
theorem dX6_setLimit_69 : decode cX6_setLimit 69 = .ok (.ireturn, 1) := by decide +kernel
theorem dX6_isComing_0 : decode cX6_isComing 0 = .ok (.aload_n 0, 1) := by decide +kernel
theorem dX6_isComing_1 : decode cX6_isComing 1 = .ok (.getfield 32, 3) := by decide +kernel
theorem dX6_isComing_4 : decode cX6_isComing 4 = .ok (.iload_n 1, 1) := by decide +kernel
theorem dX6_isComing_5 : decode cX6_isComing 5 = .ok (.iaload, 1) := by decide +kernel
theorem dX6_isComing_6 : decode cX6_isComing 6 = .ok (.iconst 1, 1) := by decide +kernel
theorem dX6_isComing_7 : decode cX6_isComing 7 = .ok (.if_icmp .eq 13, 3) := by decide +kernel
theorem dX6_isComing_10 : decode cX6_isComing 10 = .ok (.aload_n 0, 1) := by decide +kernel
theorem dX6_isComing_11 : decode cX6_isComing 11 = .ok (.getfield 32, 3) := by decide +kernel
theorem dX6_isComing_14 : decode cX6_isComing 14 = .ok (.iload_n 1, 1) := by decide +kernel
theorem dX6_isComing_15 : decode cX6_isComing 15 = .ok (.iaload, 1) := by decide +kernel
theorem dX6_isComing_16 : decode cX6_isComing 16 = .ok (.iconst 2, 1) := by decide +kernel
theorem dX6_isComing_17 : decode cX6_isComing 17 = .ok (.if_icmp .ne 17, 3) := by decide +kernel
theorem dX6_isComing_20 : decode cX6_isComing 20 = .ok (.aload_n 0, 1) := by decide +kernel
theorem dX6_isComing_21 : decode cX6_isComing 21 = .ok (.getfield 38, 3) := by decide +kernel
theorem dX6_isComing_24 : decode cX6_isComing 24 = .ok (.iload_n 1, 1) := by decide +kernel
theorem dX6_isComing_25 : decode cX6_isComing 25 = .ok (.iaload, 1) := by decide +kernel
theorem dX6_isComing_26 : decode cX6_isComing 26 = .ok (.iload_n 2, 1) := by decide +kernel
theorem dX6_isComing_27 : decode cX6_isComing 27 = .ok (.if_icmp .ne 7, 3) := by decide +kernel
theorem dX6_isComing_30 : decode cX6_isComing 30 = .ok (.iconst 1, 1) := by decide +kernel
theorem dX6_isComing_31 : decode cX6_isComing 31 = .ok (.goto 4, 3) := by decide +kernel
theorem dX6_isComing_34 : decode cX6_isComing 34 = .ok (.iconst 0, 1) := by decide +kernel
theorem dX6_isComing_35 : decode cX6_isComing 35 = .ok (.ireturn, 1) := by decide +kernel
theorem dX6_isPresent_0 : decode cX6_isPresent 0 = .ok (.aload_n 0, 1) := by decide +kernel
theorem dX6_isPresent_1 : decode cX6_isPresent 1 = .ok (.getfield 29, 3) := by decide +kernel
theorem dX6_isPresent_4 : decode cX6_isPresent 4 = .ok (.iload_n 1, 1) := by decide +kernel
theorem dX6_isPresent_5 : decode cX6_isPresent 5 = .ok (.iaload, 1) := by decide +kernel
theorem dX6_isPresent_6 : decode cX6_isPresent 6 = .ok (.iload_n 2, 1) := by decide +kernel
theorem dX6_isPresent_7 : decode cX6_isPresent 7 = .ok (.if_icmp .eq 12, 3) := by decide +kernel
theorem dX6_isPresent_10 : decode cX6_isPresent 10 = .ok (.aload_n 0, 1) := by decide +kernel
theorem dX6_isPresent_11 : decode cX6_isPresent 11 = .ok (.iload_n 1, 1) := by decide +kernel
theorem dX6_isPresent_12 : decode cX6_isPresent 12 = .ok (.iload_n 2, 1) := by decide +kernel
theorem dX6_isPresent_13 : decode cX6_isPresent 13 = .ok (.invokevirtual 80, 3) := by decide +kernel
theorem dX6_isPresent_16 : decode cX6_isPresent 16 = .ok (.ifCond .eq 7, 3) := by decide +kernel
theorem dX6_isPresent_19 : decode cX6_isPresent 19 = .ok (.iconst 1, 1) := by decide +kernel
theorem dX6_isPresent_20 : decode cX6_isPresent 20 = .ok (.goto 4, 3) := by decide +kernel
theorem dX6_isPresent_23 : decode cX6_isPresent 23 = .ok (.iconst 0, 1) := by decide +kernel
theorem dX6_isPresent_24 : decode cX6_isPresent 24 = .ok (.ireturn, 1) := by decide +kernel
theorem dX6_use_0 : decode cX6_use 0 = .ok (.iconst 0, 1) := by decide +kernel
theorem dX6_use_1 : decode cX6_use 1 = .ok (.istore_n 3, 1) := by decide +kernel
theorem dX6_use_2 : decode cX6_use 2 = .ok (.iconst 0, 1) := by decide +kernel
theorem dX6_use_3 : decode cX6_use 3 = .ok (.istore 4, 2) := by decide +kernel
theorem dX6_use_5 : decode cX6_use 5 = .ok (.iload 4, 2) := by decide +kernel
theorem dX6_use_7 : decode cX6_use 7 = .ok (.aload_n 0, 1) := by decide +kernel
theorem dX6_use_8 : decode cX6_use 8 = .ok (.getfield 67, 3) := by decide +kernel
theorem dX6_use_11 : decode cX6_use 11 = .ok (.if_icmp .ge 63, 3) := by decide +kernel
theorem dX6_use_14 : decode cX6_use 14 = .ok (.iload_n 3, 1) := by decide +kernel
theorem dX6_use_15 : decode cX6_use 15 = .ok (.aload_n 0, 1) := by decide +kernel
theorem dX6_use_16 : decode cX6_use 16 = .ok (.iload 4, 2) := by decide +kernel
theorem dX6_use_18 : decode cX6_use 18 = .ok (.iload_n 1, 1) := by decide +kernel
theorem dX6_use_19 : decode cX6_use 19 = .ok (.invokevirtual 84, 3) := by decide +kernel
theorem dX6_use_22 : decode cX6_use 22 = .ok (.ifCond .ne 29, 3) := by decide +kernel
theorem dX6_use_25 : decode cX6_use 25 = .ok (.iload_n 2, 1) := by decide +kernel
theorem dX6_use_26 : decode cX6_use 26 = .ok (.ifCond .ne 39, 3) := by decide +kernel
theorem dX6_use_29 : decode cX6_use 29 = .ok (.aload_n 0, 1) := by decide +kernel
theorem dX6_use_30 : decode cX6_use 30 = .ok (.getfield 32, 3) := by decide +kernel
theorem dX6_use_33 : decode cX6_use 33 = .ok (.iload 4, 2) := by decide +kernel
theorem dX6_use_35 : decode cX6_use 35 = .ok (.iaload, 1) := by decide +kernel
theorem dX6_use_36 : decode cX6_use 36 = .ok (.iconst 3, 1) := by decide +kernel
theorem dX6_use_37 : decode cX6_use 37 = .ok (.if_icmp .ne 28, 3) := by decide +kernel
theorem dX6_use_40 : decode cX6_use 40 = .ok (.aload_n 0, 1) := by decide +kernel
theorem dX6_use_41 : decode cX6_use 41 = .ok (.getfield 35, 3) := by decide +kernel
theorem dX6_use_44 : decode cX6_use 44 = .ok (.iload 4, 2) := by decide +kernel
theorem dX6_use_46 : decode cX6_use 46 = .ok (.iaload, 1) := by decide +kernel
theorem dX6_use_47 : decode cX6_use 47 = .ok (.iload_n 1, 1) := by decide +kernel
theorem dX6_use_48 : decode cX6_use 48 = .ok (.if_icmp .ne 17, 3) := by decide +kernel
theorem dX6_use_51 : decode cX6_use 51 = .ok (.aload_n 0, 1) := by decide +kernel
theorem dX6_use_52 : decode cX6_use 52 = .ok (.getfield 17, 3) := by decide +kernel
theorem dX6_use_55 : decode cX6_use 55 = .ok (.iconst 3, 1) := by decide +kernel
theorem dX6_use_56 : decode cX6_use 56 = .ok (.iload 4, 2) := by decide +kernel
theorem dX6_use_58 : decode cX6_use 58 = .ok (.imul, 1) := by decide +kernel
theorem dX6_use_59 : decode cX6_use 59 = .ok (.iload_n 2, 1) := by decide +kernel
theorem dX6_use_60 : decode cX6_use 60 = .ok (.iadd, 1) := by decide +kernel
theorem dX6_use_61 : decode cX6_use 61 = .ok (.iaload, 1) := by decide +kernel
theorem dX6_use_62 : decode cX6_use 62 = .ok (.goto 4, 3) := by decide +kernel
theorem dX6_use_65 : decode cX6_use 65 = .ok (.iconst 0, 1) := by decide +kernel
theorem dX6_use_66 : decode cX6_use 66 = .ok (.iadd, 1) := by decide +kernel
theorem dX6_use_67 : decode cX6_use 67 = .ok (.istore_n 3, 1) := by decide +kernel
theorem dX6_use_68 : decode cX6_use 68 = .ok (.iinc 4 1, 3) := by decide +kernel
theorem dX6_use_71 : decode cX6_use 71 = .ok (.goto (-66), 3) := by decide +kernel
theorem dX6_use_74 : decode cX6_use 74 = .ok (.iload_n 3, 1) := by decide +kernel
theorem dX6_use_75 : decode cX6_use 75 = .ok (.ireturn, 1) := by decide +kernel
theorem dX6_isFull_0 : decode cX6_isFull 0 = .ok (.aload_n 0, 1) := by decide +kernel
theorem dX6_isFull_1 : decode cX6_isFull 1 = .ok (.iload_n 1, 1) := by decide +kernel
theorem dX6_isFull_2 : decode cX6_isFull 2 = .ok (.iload_n 2, 1) := by decide +kernel
theorem dX6_isFull_3 : decode cX6_isFull 3 = .ok (.invokevirtual 87, 3) := by decide +kernel
theorem dX6_isFull_6 : decode cX6_isFull 6 = .ok (.iload_n 3, 1) := by decide +kernel
theorem dX6_isFull_7 : decode cX6_isFull 7 = .ok (.iadd, 1) := by decide +kernel
theorem dX6_isFull_8 : decode cX6_isFull 8 = .ok (.aload_n 0, 1) := by decide +kernel
theorem dX6_isFull_9 : decode cX6_isFull 9 = .ok (.getfield 7, 3) := by decide +kernel
theorem dX6_isFull_12 : decode cX6_isFull 12 = .ok (.iconst 3, 1) := by decide +kernel
theorem dX6_isFull_13 : decode cX6_isFull 13 = .ok (.iload_n 1, 1) := by decide +kernel
theorem dX6_isFull_14 : decode cX6_isFull 14 = .ok (.imul, 1) := by decide +kernel
theorem dX6_isFull_15 : decode cX6_isFull 15 = .ok (.iload_n 2, 1) := by decide +kernel
theorem dX6_isFull_16 : decode cX6_isFull 16 = .ok (.iadd, 1) := by decide +kernel
theorem dX6_isFull_17 : decode cX6_isFull 17 = .ok (.iaload, 1) := by decide +kernel
theorem dX6_isFull_18 : decode cX6_isFull 18 = .ok (.if_icmp .le 7, 3) := by decide +kernel
theorem dX6_isFull_21 : decode cX6_isFull 21 = .ok (.iconst 1, 1) := by decide +kernel
theorem dX6_isFull_22 : decode cX6_isFull 22 = .ok (.goto 4, 3) := by decide +kernel
theorem dX6_isFull_25 : decode cX6_isFull 25 = .ok (.iconst 0, 1) := by decide +kernel
theorem dX6_isFull_26 : decode cX6_isFull 26 = .ok (.ireturn, 1) := by decide +kernel
theorem dX6_addTenant_0 : decode cX6_addTenant 0 = .ok (.aload_n 0, 1) := by decide +kernel
theorem dX6_addTenant_1 : decode cX6_addTenant 1 = .ok (.aload_n 0, 1) := by decide +kernel
theorem dX6_addTenant_2 : decode cX6_addTenant 2 = .ok (.iload_n 1, 1) := by decide +kernel
theorem dX6_addTenant_3 : decode cX6_addTenant 3 = .ok (.invokevirtual 74, 3) := by decide +kernel
theorem dX6_addTenant_6 : decode cX6_addTenant 6 = .ok (.ifCond .eq 7, 3) := by decide +kernel
theorem dX6_addTenant_9 : decode cX6_addTenant 9 = .ok (.iconst 1, 1) := by decide +kernel
theorem dX6_addTenant_10 : decode cX6_addTenant 10 = .ok (.goto 107, 3) := by decide +kernel
theorem dX6_addTenant_13 : decode cX6_addTenant 13 = .ok (.iload_n 2, 1) := by decide +kernel
theorem dX6_addTenant_14 : decode cX6_addTenant 14 = .ok (.iconst 1, 1) := by decide +kernel
theorem dX6_addTenant_15 : decode cX6_addTenant 15 = .ok (.bipush 100, 2) := by decide +kernel
theorem dX6_addTenant_17 : decode cX6_addTenant 17 = .ok (.invokestatic 63, 3) := by decide +kernel
theorem dX6_addTenant_20 : decode cX6_addTenant 20 = .ok (.ifCond .eq 35, 3) := by decide +kernel
theorem dX6_addTenant_23 : decode cX6_addTenant 23 = .ok (.iload_n 3, 1) := by decide +kernel
theorem dX6_addTenant_24 : decode cX6_addTenant 24 = .ok (.iconst 1, 1) := by decide +kernel
theorem dX6_addTenant_25 : decode cX6_addTenant 25 = .ok (.bipush 100, 2) := by decide +kernel
theorem dX6_addTenant_27 : decode cX6_addTenant 27 = .ok (.invokestatic 63, 3) := by decide +kernel
theorem dX6_addTenant_30 : decode cX6_addTenant 30 = .ok (.ifCond .eq 25, 3) := by decide +kernel
theorem dX6_addTenant_33 : decode cX6_addTenant 33 = .ok (.iload 4, 2) := by decide +kernel
theorem dX6_addTenant_35 : decode cX6_addTenant 35 = .ok (.iconst 1, 1) := by decide +kernel
theorem dX6_addTenant_36 : decode cX6_addTenant 36 = .ok (.bipush 100, 2) := by decide +kernel
theorem dX6_addTenant_38 : decode cX6_addTenant 38 = .ok (.invokestatic 63, 3) := by decide +kernel
theorem dX6_addTenant_41 : decode cX6_addTenant 41 = .ok (.ifCond .eq 14, 3) := by decide +kernel
theorem dX6_addTenant_44 : decode cX6_addTenant 44 = .ok (.iload 5, 2) := by decide +kernel
theorem dX6_addTenant_46 : decode cX6_addTenant 46 = .ok (.iconst 0, 1) := by decide +kernel
theorem dX6_addTenant_47 : decode cX6_addTenant 47 = .ok (.bipush 9, 2) := by decide +kernel
theorem dX6_addTenant_49 : decode cX6_addTenant 49 = .ok (.invokestatic 63, 3) := by decide +kernel
theorem dX6_addTenant_52 : decode cX6_addTenant 52 = .ok (.ifCond .ne 7, 3) := by decide +kernel
theorem dX6_addTenant_55 : decode cX6_addTenant 55 = .ok (.iconst 2, 1) := by decide +kernel
theorem dX6_addTenant_56 : decode cX6_addTenant 56 = .ok (.goto 61, 3) := by decide +kernel
theorem dX6_addTenant_59 : decode cX6_addTenant 59 = .ok (.aload_n 0, 1) := by decide +kernel
theorem dX6_addTenant_60 : decode cX6_addTenant 60 = .ok (.getfield 13, 3) := by decide +kernel
theorem dX6_addTenant_63 : decode cX6_addTenant 63 = .ok (.iload_n 1, 1) := by decide +kernel
theorem dX6_addTenant_64 : decode cX6_addTenant 64 = .ok (.baload, 1) := by decide +kernel
theorem dX6_addTenant_65 : decode cX6_addTenant 65 = .ok (.ifCond .ne 34, 3) := by decide +kernel
theorem dX6_addTenant_68 : decode cX6_addTenant 68 = .ok (.aload_n 0, 1) := by decide +kernel
theorem dX6_addTenant_69 : decode cX6_addTenant 69 = .ok (.iload_n 1, 1) := by decide +kernel
theorem dX6_addTenant_70 : decode cX6_addTenant 70 = .ok (.iconst 0, 1) := by decide +kernel
theorem dX6_addTenant_71 : decode cX6_addTenant 71 = .ok (.iload_n 2, 1) := by decide +kernel
theorem dX6_addTenant_72 : decode cX6_addTenant 72 = .ok (.invokevirtual 91, 3) := by decide +kernel
theorem dX6_addTenant_75 : decode cX6_addTenant 75 = .ok (.ifCond .ne 24, 3) := by decide +kernel
theorem dX6_addTenant_78 : decode cX6_addTenant 78 = .ok (.aload_n 0, 1) := by decide +kernel
theorem dX6_addTenant_79 : decode cX6_addTenant 79 = .ok (.iload_n 1, 1) := by decide +kernel
theorem dX6_addTenant_80 : decode cX6_addTenant 80 = .ok (.iconst 1, 1) := by decide +kernel
theorem dX6_addTenant_81 : decode cX6_addTenant 81 = .ok (.iload_n 3, 1) := by decide +kernel
theorem dX6_addTenant_82 : decode cX6_addTenant 82 = .ok (.invokevirtual 91, 3) := by decide +kernel
theorem dX6_addTenant_85 : decode cX6_addTenant 85 = .ok (.ifCond .ne 14, 3) := by decide +kernel
theorem dX6_addTenant_88 : decode cX6_addTenant 88 = .ok (.aload_n 0, 1) := by decide +kernel
theorem dX6_addTenant_89 : decode cX6_addTenant 89 = .ok (.iload_n 1, 1) := by decide +kernel
theorem dX6_addTenant_90 : decode cX6_addTenant 90 = .ok (.iconst 2, 1) := by decide +kernel
theorem dX6_addTenant_91 : decode cX6_addTenant 91 = .ok (.iload 4, 2) := by decide +kernel
theorem dX6_addTenant_93 : decode cX6_addTenant 93 = .ok (.invokevirtual 91, 3) := by decide +kernel
theorem dX6_addTenant_96 : decode cX6_addTenant 96 = .ok (.ifCond .eq 7, 3) := by decide +kernel
theorem dX6_addTenant_99 : decode cX6_addTenant 99 = .ok (.iconst 3, 1) := by decide +kernel
theorem dX6_addTenant_100 : decode cX6_addTenant 100 = .ok (.goto 17, 3) := by decide +kernel
theorem dX6_addTenant_103 : decode cX6_addTenant 103 = .ok (.aload_n 0, 1) := by decide +kernel
theorem dX6_addTenant_104 : decode cX6_addTenant 104 = .ok (.getfield 67, 3) := by decide +kernel
theorem dX6_addTenant_107 : decode cX6_addTenant 107 = .ok (.bipush 6, 2) := by decide +kernel
theorem dX6_addTenant_109 : decode cX6_addTenant 109 = .ok (.if_icmp .ne 7, 3) := by decide +kernel
theorem dX6_addTenant_112 : decode cX6_addTenant 112 = .ok (.iconst 4, 1) := by decide +kernel
theorem dX6_addTenant_113 : decode cX6_addTenant 113 = .ok (.goto 4, 3) := by decide +kernel
theorem dX6_addTenant_116 : decode cX6_addTenant 116 = .ok (.iconst 0, 1) := by decide +kernel
theorem dX6_addTenant_117 : decode cX6_addTenant 117 = .ok (.invokevirtual 70, 3) := by decide +kernel
theorem dX6_addTenant_120 : decode cX6_addTenant 120 = .ok (.ifCond .eq 5, 3) := by decide +kernel
theorem dX6_addTenant_123 : decode cX6_addTenant 123 = .ok (.iconst 0, 1) := by decide +kernel
theorem dX6_addTenant_124 : decode cX6_addTenant 124 = .ok (.ireturn, 1) := by decide +kernel
theorem dX6_addTenant_125 : decode cX6_addTenant 125 = .ok (.aload_n 0, 1) := by decide +kernel
theorem dX6_addTenant_126 : decode cX6_addTenant 126 = .ok (.getfield 17, 3) := by decide +kernel
theorem dX6_addTenant_129 : decode cX6_addTenant 129 = .ok (.iconst 3, 1) := by decide +kernel
theorem dX6_addTenant_130 : decode cX6_addTenant 130 = .ok (.aload_n 0, 1) := by decide +kernel
theorem dX6_addTenant_131 : decode cX6_addTenant 131 = .ok (.getfield 67, 3) := by decide +kernel
theorem dX6_addTenant_134 : decode cX6_addTenant 134 = .ok (.imul, 1) := by decide +kernel
theorem dX6_addTenant_135 : decode cX6_addTenant 135 = .ok (.iload_n 2, 1) := by decide +kernel
theorem dX6_addTenant_136 : decode cX6_addTenant 136 = .ok (.iastore, 1) := by decide +kernel
theorem dX6_addTenant_137 : decode cX6_addTenant 137 = .ok (.aload_n 0, 1) := by decide +kernel
theorem dX6_addTenant_138 : decode cX6_addTenant 138 = .ok (.getfield 17, 3) := by decide +kernel
theorem dX6_addTenant_141 : decode cX6_addTenant 141 = .ok (.iconst 3, 1) := by decide +kernel
theorem dX6_addTenant_142 : decode cX6_addTenant 142 = .ok (.aload_n 0, 1) := by decide +kernel
theorem dX6_addTenant_143 : decode cX6_addTenant 143 = .ok (.getfield 67, 3) := by decide +kernel
theorem dX6_addTenant_146 : decode cX6_addTenant 146 = .ok (.imul, 1) := by decide +kernel
theorem dX6_addTenant_147 : decode cX6_addTenant 147 = .ok (.iconst 1, 1) := by decide +kernel
theorem dX6_addTenant_148 : decode cX6_addTenant 148 = .ok (.iadd, 1) := by decide +kernel
theorem dX6_addTenant_149 : decode cX6_addTenant 149 = .ok (.iload_n 3, 1) := by decide +kernel
theorem dX6_addTenant_150 : decode cX6_addTenant 150 = .ok (.iastore, 1) := by decide +kernel
theorem dX6_addTenant_151 : decode cX6_addTenant 151 = .ok (.aload_n 0, 1) := by decide +kernel
theorem dX6_addTenant_152 : decode cX6_addTenant 152 = .ok (.getfield 17, 3) := by decide +kernel
theorem dX6_addTenant_155 : decode cX6_addTenant 155 = .ok (.iconst 3, 1) := by decide +kernel
theorem dX6_addTenant_156 : decode cX6_addTenant 156 = .ok (.aload_n 0, 1) := by decide +kernel
theorem dX6_addTenant_157 : decode cX6_addTenant 157 = .ok (.getfield 67, 3) := by decide +kernel
theorem dX6_addTenant_160 : decode cX6_addTenant 160 = .ok (.imul, 1) := by decide +kernel
theorem dX6_addTenant_161 : decode cX6_addTenant 161 = .ok (.iconst 2, 1) := by decide +kernel
theorem dX6_addTenant_162 : decode cX6_addTenant 162 = .ok (.iadd, 1) := by decide +kernel
theorem dX6_addTenant_163 : decode cX6_addTenant 163 = .ok (.iload 4, 2) := by decide +kernel
theorem dX6_addTenant_165 : decode cX6_addTenant 165 = .ok (.iastore, 1) := by decide +kernel
theorem dX6_addTenant_166 : decode cX6_addTenant 166 = .ok (.aload_n 0, 1) := by decide +kernel
theorem dX6_addTenant_167 : decode cX6_addTenant 167 = .ok (.getfield 20, 3) := by decide +kernel
theorem dX6_addTenant_170 : decode cX6_addTenant 170 = .ok (.aload_n 0, 1) := by decide +kernel
theorem dX6_addTenant_171 : decode cX6_addTenant 171 = .ok (.getfield 67, 3) := by decide +kernel
theorem dX6_addTenant_174 : decode cX6_addTenant 174 = .ok (.iload 5, 2) := by decide +kernel
theorem dX6_addTenant_176 : decode cX6_addTenant 176 = .ok (.iastore, 1) := by decide +kernel
theorem dX6_addTenant_177 : decode cX6_addTenant 177 = .ok (.aload_n 0, 1) := by decide +kernel
theorem dX6_addTenant_178 : decode cX6_addTenant 178 = .ok (.getfield 29, 3) := by decide +kernel
theorem dX6_addTenant_181 : decode cX6_addTenant 181 = .ok (.aload_n 0, 1) := by decide +kernel
theorem dX6_addTenant_182 : decode cX6_addTenant 182 = .ok (.getfield 67, 3) := by decide +kernel
theorem dX6_addTenant_185 : decode cX6_addTenant 185 = .ok (.iload_n 1, 1) := by decide +kernel
theorem dX6_addTenant_186 : decode cX6_addTenant 186 = .ok (.iastore, 1) := by decide +kernel
theorem dX6_addTenant_187 : decode cX6_addTenant 187 = .ok (.aload_n 0, 1) := by decide +kernel
theorem dX6_addTenant_188 : decode cX6_addTenant 188 = .ok (.dup, 1) := by decide +kernel
theorem dX6_addTenant_189 : decode cX6_addTenant 189 = .ok (.getfield 67, 3) := by decide +kernel
theorem dX6_addTenant_192 : decode cX6_addTenant 192 = .ok (.iconst 1, 1) := by decide +kernel
theorem dX6_addTenant_193 : decode cX6_addTenant 193 = .ok (.iadd, 1) := by decide +kernel
theorem dX6_addTenant_194 : decode cX6_addTenant 194 = .ok (.putfield 67, 3) := by decide +kernel
theorem dX6_addTenant_197 : decode cX6_addTenant 197 = .ok (.aload_n 0, 1) := by decide +kernel
theorem dX6_addTenant_198 : decode cX6_addTenant 198 = .ok (.getfield 67, 3) := by decide +kernel
theorem dX6_addTenant_201 : decode cX6_addTenant 201 = .ok (.iconst 1, 1) := by decide +kernel
theorem dX6_addTenant_202 : decode cX6_addTenant 202 = .ok (.isub, 1) := by decide +kernel
theorem dX6_addTenant_203 : decode cX6_addTenant 203 = .ok (.ireturn, 1) := by decide +kernel
theorem dX6_setSize_0 : decode cX6_setSize 0 = .ok (.aload_n 0, 1) := by decide +kernel
theorem dX6_setSize_1 : decode cX6_setSize 1 = .ok (.aload_n 0, 1) := by decide +kernel
theorem dX6_setSize_2 : decode cX6_setSize 2 = .ok (.iload_n 1, 1) := by decide +kernel
theorem dX6_setSize_3 : decode cX6_setSize 3 = .ok (.invokevirtual 94, 3) := by decide +kernel
theorem dX6_setSize_6 : decode cX6_setSize 6 = .ok (.ifCond .eq 7, 3) := by decide +kernel
theorem dX6_setSize_9 : decode cX6_setSize 9 = .ok (.iconst 1, 1) := by decide +kernel
theorem dX6_setSize_10 : decode cX6_setSize 10 = .ok (.goto 27, 3) := by decide +kernel
theorem dX6_setSize_13 : decode cX6_setSize 13 = .ok (.iload_n 2, 1) := by decide +kernel
theorem dX6_setSize_14 : decode cX6_setSize 14 = .ok (.iconst 1, 1) := by decide +kernel
theorem dX6_setSize_15 : decode cX6_setSize 15 = .ok (.iconst 2, 1) := by decide +kernel
theorem dX6_setSize_16 : decode cX6_setSize 16 = .ok (.invokestatic 63, 3) := by decide +kernel
theorem dX6_setSize_19 : decode cX6_setSize 19 = .ok (.ifCond .eq 17, 3) := by decide +kernel
theorem dX6_setSize_22 : decode cX6_setSize 22 = .ok (.iload_n 3, 1) := by decide +kernel
theorem dX6_setSize_23 : decode cX6_setSize 23 = .ok (.iconst 1, 1) := by decide +kernel
theorem dX6_setSize_24 : decode cX6_setSize 24 = .ok (.bipush 100, 2) := by decide +kernel
theorem dX6_setSize_26 : decode cX6_setSize 26 = .ok (.invokestatic 63, 3) := by decide +kernel
theorem dX6_setSize_29 : decode cX6_setSize 29 = .ok (.ifCond .eq 7, 3) := by decide +kernel
theorem dX6_setSize_32 : decode cX6_setSize 32 = .ok (.iconst 0, 1) := by decide +kernel
theorem dX6_setSize_33 : decode cX6_setSize 33 = .ok (.goto 4, 3) := by decide +kernel
theorem dX6_setSize_36 : decode cX6_setSize 36 = .ok (.iconst 2, 1) := by decide +kernel
theorem dX6_setSize_37 : decode cX6_setSize 37 = .ok (.invokevirtual 70, 3) := by decide +kernel
theorem dX6_setSize_40 : decode cX6_setSize 40 = .ok (.ifCond .eq 5, 3) := by decide +kernel
theorem dX6_setSize_43 : decode cX6_setSize 43 = .ok (.iconst 0, 1) := by decide +kernel
theorem dX6_setSize_44 : decode cX6_setSize 44 = .ok (.ireturn, 1) := by decide +kernel
theorem dX6_setSize_45 : decode cX6_setSize 45 = .ok (.aload_n 0, 1) := by decide +kernel
theorem dX6_setSize_46 : decode cX6_setSize 46 = .ok (.getfield 17, 3) := by decide +kernel
theorem dX6_setSize_49 : decode cX6_setSize 49 = .ok (.iconst 3, 1) := by decide +kernel
theorem dX6_setSize_50 : decode cX6_setSize 50 = .ok (.iload_n 1, 1) := by decide +kernel
theorem dX6_setSize_51 : decode cX6_setSize 51 = .ok (.imul, 1) := by decide +kernel
theorem dX6_setSize_52 : decode cX6_setSize 52 = .ok (.iload_n 2, 1) := by decide +kernel
theorem dX6_setSize_53 : decode cX6_setSize 53 = .ok (.iadd, 1) := by decide +kernel
theorem dX6_setSize_54 : decode cX6_setSize 54 = .ok (.iaload, 1) := by decide +kernel
theorem dX6_setSize_55 : decode cX6_setSize 55 = .ok (.istore 4, 2) := by decide +kernel
theorem dX6_setSize_57 : decode cX6_setSize 57 = .ok (.aload_n 0, 1) := by decide +kernel
theorem dX6_setSize_58 : decode cX6_setSize 58 = .ok (.getfield 17, 3) := by decide +kernel
theorem dX6_setSize_61 : decode cX6_setSize 61 = .ok (.iconst 3, 1) := by decide +kernel
theorem dX6_setSize_62 : decode cX6_setSize 62 = .ok (.iload_n 1, 1) := by decide +kernel
theorem dX6_setSize_63 : decode cX6_setSize 63 = .ok (.imul, 1) := by decide +kernel
theorem dX6_setSize_64 : decode cX6_setSize 64 = .ok (.iload_n 2, 1) := by decide +kernel
theorem dX6_setSize_65 : decode cX6_setSize 65 = .ok (.iadd, 1) := by decide +kernel
theorem dX6_setSize_66 : decode cX6_setSize 66 = .ok (.iload_n 3, 1) := by decide +kernel
theorem dX6_setSize_67 : decode cX6_setSize 67 = .ok (.iastore, 1) := by decide +kernel
theorem dX6_setSize_68 : decode cX6_setSize 68 = .ok (.iload 4, 2) := by decide +kernel
theorem dX6_setSize_70 : decode cX6_setSize 70 = .ok (.ireturn, 1) := by decide +kernel
theorem dX6_isInWindow_0 : decode cX6_isInWindow 0 = .ok (.aload_n 0, 1) := by decide +kernel
theorem dX6_isInWindow_1 : decode cX6_isInWindow 1 = .ok (.getfield 23, 3) := by decide +kernel
theorem dX6_isInWindow_4 : decode cX6_isInWindow 4 = .ok (.iload_n 1, 1) := by decide +kernel
theorem dX6_isInWindow_5 : decode cX6_isInWindow 5 = .ok (.iaload, 1) := by decide +kernel
theorem dX6_isInWindow_6 : decode cX6_isInWindow 6 = .ok (.istore_n 3, 1) := by decide +kernel
theorem dX6_isInWindow_7 : decode cX6_isInWindow 7 = .ok (.aload_n 0, 1) := by decide +kernel
theorem dX6_isInWindow_8 : decode cX6_isInWindow 8 = .ok (.getfield 26, 3) := by decide +kernel
theorem dX6_isInWindow_11 : decode cX6_isInWindow 11 = .ok (.iload_n 1, 1) := by decide +kernel
theorem dX6_isInWindow_12 : decode cX6_isInWindow 12 = .ok (.iaload, 1) := by decide +kernel
theorem dX6_isInWindow_13 : decode cX6_isInWindow 13 = .ok (.istore 4, 2) := by decide +kernel
theorem dX6_isInWindow_15 : decode cX6_isInWindow 15 = .ok (.iload_n 3, 1) := by decide +kernel
theorem dX6_isInWindow_16 : decode cX6_isInWindow 16 = .ok (.iload 4, 2) := by decide +kernel
theorem dX6_isInWindow_18 : decode cX6_isInWindow 18 = .ok (.if_icmp .eq 35, 3) := by decide +kernel
theorem dX6_isInWindow_21 : decode cX6_isInWindow 21 = .ok (.iload_n 3, 1) := by decide +kernel
theorem dX6_isInWindow_22 : decode cX6_isInWindow 22 = .ok (.iload 4, 2) := by decide +kernel
theorem dX6_isInWindow_24 : decode cX6_isInWindow 24 = .ok (.if_icmp .ge 18, 3) := by decide +kernel
theorem dX6_isInWindow_27 : decode cX6_isInWindow 27 = .ok (.iload_n 2, 1) := by decide +kernel
theorem dX6_isInWindow_28 : decode cX6_isInWindow 28 = .ok (.iload_n 3, 1) := by decide +kernel
theorem dX6_isInWindow_29 : decode cX6_isInWindow 29 = .ok (.iload 4, 2) := by decide +kernel
theorem dX6_isInWindow_31 : decode cX6_isInWindow 31 = .ok (.iconst 1, 1) := by decide +kernel
theorem dX6_isInWindow_32 : decode cX6_isInWindow 32 = .ok (.isub, 1) := by decide +kernel
theorem dX6_isInWindow_33 : decode cX6_isInWindow 33 = .ok (.invokestatic 63, 3) := by decide +kernel
theorem dX6_isInWindow_36 : decode cX6_isInWindow 36 = .ok (.ifCond .eq 21, 3) := by decide +kernel
theorem dX6_isInWindow_39 : decode cX6_isInWindow 39 = .ok (.goto 14, 3) := by decide +kernel
theorem dX6_isInWindow_42 : decode cX6_isInWindow 42 = .ok (.iload_n 2, 1) := by decide +kernel
theorem dX6_isInWindow_43 : decode cX6_isInWindow 43 = .ok (.iload_n 3, 1) := by decide +kernel
theorem dX6_isInWindow_44 : decode cX6_isInWindow 44 = .ok (.if_icmp .ge 9, 3) := by decide +kernel
theorem dX6_isInWindow_47 : decode cX6_isInWindow 47 = .ok (.iload_n 2, 1) := by decide +kernel
theorem dX6_isInWindow_48 : decode cX6_isInWindow 48 = .ok (.iload 4, 2) := by decide +kernel
theorem dX6_isInWindow_50 : decode cX6_isInWindow 50 = .ok (.if_icmp .ge 7, 3) := by decide +kernel
theorem dX6_isInWindow_53 : decode cX6_isInWindow 53 = .ok (.iconst 1, 1) := by decide +kernel
theorem dX6_isInWindow_54 : decode cX6_isInWindow 54 = .ok (.goto 4, 3) := by decide +kernel
theorem dX6_isInWindow_57 : decode cX6_isInWindow 57 = .ok (.iconst 0, 1) := by decide +kernel
theorem dX6_isInWindow_58 : decode cX6_isInWindow 58 = .ok (.ireturn, 1) := by decide +kernel
theorem dX6_setWindow_0 : decode cX6_setWindow 0 = .ok (.aload_n 0, 1) := by decide +kernel
theorem dX6_setWindow_1 : decode cX6_setWindow 1 = .ok (.aload_n 0, 1) := by decide +kernel
theorem dX6_setWindow_2 : decode cX6_setWindow 2 = .ok (.iload_n 1, 1) := by decide +kernel
theorem dX6_setWindow_3 : decode cX6_setWindow 3 = .ok (.invokevirtual 94, 3) := by decide +kernel
theorem dX6_setWindow_6 : decode cX6_setWindow 6 = .ok (.ifCond .eq 7, 3) := by decide +kernel
theorem dX6_setWindow_9 : decode cX6_setWindow 9 = .ok (.iconst 1, 1) := by decide +kernel
theorem dX6_setWindow_10 : decode cX6_setWindow 10 = .ok (.goto 28, 3) := by decide +kernel
theorem dX6_setWindow_13 : decode cX6_setWindow 13 = .ok (.iload_n 2, 1) := by decide +kernel
theorem dX6_setWindow_14 : decode cX6_setWindow 14 = .ok (.iconst 0, 1) := by decide +kernel
theorem dX6_setWindow_15 : decode cX6_setWindow 15 = .ok (.bipush 23, 2) := by decide +kernel
theorem dX6_setWindow_17 : decode cX6_setWindow 17 = .ok (.invokestatic 63, 3) := by decide +kernel
theorem dX6_setWindow_20 : decode cX6_setWindow 20 = .ok (.ifCond .eq 17, 3) := by decide +kernel
theorem dX6_setWindow_23 : decode cX6_setWindow 23 = .ok (.iload_n 3, 1) := by decide +kernel
theorem dX6_setWindow_24 : decode cX6_setWindow 24 = .ok (.iconst 0, 1) := by decide +kernel
theorem dX6_setWindow_25 : decode cX6_setWindow 25 = .ok (.bipush 23, 2) := by decide +kernel
theorem dX6_setWindow_27 : decode cX6_setWindow 27 = .ok (.invokestatic 63, 3) := by decide +kernel
theorem dX6_setWindow_30 : decode cX6_setWindow 30 = .ok (.ifCond .eq 7, 3) := by decide +kernel
theorem dX6_setWindow_33 : decode cX6_setWindow 33 = .ok (.iconst 0, 1) := by decide +kernel
theorem dX6_setWindow_34 : decode cX6_setWindow 34 = .ok (.goto 4, 3) := by decide +kernel
theorem dX6_setWindow_37 : decode cX6_setWindow 37 = .ok (.iconst 2, 1) := by decide +kernel
theorem dX6_setWindow_38 : decode cX6_setWindow 38 = .ok (.invokevirtual 70, 3) := by decide +kernel
theorem dX6_setWindow_41 : decode cX6_setWindow 41 = .ok (.ifCond .eq 5, 3) := by decide +kernel
theorem dX6_setWindow_44 : decode cX6_setWindow 44 = .ok (.iconst 0, 1) := by decide +kernel
theorem dX6_setWindow_45 : decode cX6_setWindow 45 = .ok (.ireturn, 1) := by decide +kernel
theorem dX6_setWindow_46 : decode cX6_setWindow 46 = .ok (.aload_n 0, 1) := by decide +kernel
theorem dX6_setWindow_47 : decode cX6_setWindow 47 = .ok (.getfield 23, 3) := by decide +kernel
theorem dX6_setWindow_50 : decode cX6_setWindow 50 = .ok (.iload_n 1, 1) := by decide +kernel
theorem dX6_setWindow_51 : decode cX6_setWindow 51 = .ok (.iload_n 2, 1) := by decide +kernel
theorem dX6_setWindow_52 : decode cX6_setWindow 52 = .ok (.iastore, 1) := by decide +kernel
theorem dX6_setWindow_53 : decode cX6_setWindow 53 = .ok (.aload_n 0, 1) := by decide +kernel
theorem dX6_setWindow_54 : decode cX6_setWindow 54 = .ok (.getfield 26, 3) := by decide +kernel
theorem dX6_setWindow_57 : decode cX6_setWindow 57 = .ok (.iload_n 1, 1) := by decide +kernel
theorem dX6_setWindow_58 : decode cX6_setWindow 58 = .ok (.iload_n 3, 1) := by decide +kernel
theorem dX6_setWindow_59 : decode cX6_setWindow 59 = .ok (.iastore, 1) := by decide +kernel
theorem dX6_setWindow_60 : decode cX6_setWindow 60 = .ok (.iload_n 2, 1) := by decide +kernel
theorem dX6_setWindow_61 : decode cX6_setWindow 61 = .ok (.iload_n 3, 1) := by decide +kernel
theorem dX6_setWindow_62 : decode cX6_setWindow 62 = .ok (.if_icmp .ge 9, 3) := by decide +kernel
theorem dX6_setWindow_65 : decode cX6_setWindow 65 = .ok (.iload_n 3, 1) := by decide +kernel
theorem dX6_setWindow_66 : decode cX6_setWindow 66 = .ok (.iload_n 2, 1) := by decide +kernel
theorem dX6_setWindow_67 : decode cX6_setWindow 67 = .ok (.isub, 1) := by decide +kernel
theorem dX6_setWindow_68 : decode cX6_setWindow 68 = .ok (.goto 9, 3) := by decide +kernel
theorem dX6_setWindow_71 : decode cX6_setWindow 71 = .ok (.iload_n 3, 1) := by decide +kernel
theorem dX6_setWindow_72 : decode cX6_setWindow 72 = .ok (.iload_n 2, 1) := by decide +kernel
theorem dX6_setWindow_73 : decode cX6_setWindow 73 = .ok (.isub, 1) := by decide +kernel
theorem dX6_setWindow_74 : decode cX6_setWindow 74 = .ok (.bipush 24, 2) := by decide +kernel
theorem dX6_setWindow_76 : decode cX6_setWindow 76 = .ok (.iadd, 1) := by decide +kernel
theorem dX6_setWindow_77 : decode cX6_setWindow 77 = .ok (.ireturn, 1) := by decide +kernel
theorem dX6_areApart_0 : decode cX6_areApart 0 = .ok (.iconst 0, 1) := by decide +kernel
theorem dX6_areApart_1 : decode cX6_areApart 1 = .ok (.istore_n 3, 1) := by decide +kernel
theorem dX6_areApart_2 : decode cX6_areApart 2 = .ok (.iload_n 3, 1) := by decide +kernel
theorem dX6_areApart_3 : decode cX6_areApart 3 = .ok (.aload_n 0, 1) := by decide +kernel
theorem dX6_areApart_4 : decode cX6_areApart 4 = .ok (.getfield 97, 3) := by decide +kernel
theorem dX6_areApart_7 : decode cX6_areApart 7 = .ok (.if_icmp .ge 51, 3) := by decide +kernel
theorem dX6_areApart_10 : decode cX6_areApart 10 = .ok (.aload_n 0, 1) := by decide +kernel
theorem dX6_areApart_11 : decode cX6_areApart 11 = .ok (.getfield 44, 3) := by decide +kernel
theorem dX6_areApart_14 : decode cX6_areApart 14 = .ok (.iload_n 3, 1) := by decide +kernel
theorem dX6_areApart_15 : decode cX6_areApart 15 = .ok (.iaload, 1) := by decide +kernel
theorem dX6_areApart_16 : decode cX6_areApart 16 = .ok (.iload_n 1, 1) := by decide +kernel
theorem dX6_areApart_17 : decode cX6_areApart 17 = .ok (.if_icmp .ne 13, 3) := by decide +kernel
theorem dX6_areApart_20 : decode cX6_areApart 20 = .ok (.aload_n 0, 1) := by decide +kernel
theorem dX6_areApart_21 : decode cX6_areApart 21 = .ok (.getfield 47, 3) := by decide +kernel
theorem dX6_areApart_24 : decode cX6_areApart 24 = .ok (.iload_n 3, 1) := by decide +kernel
theorem dX6_areApart_25 : decode cX6_areApart 25 = .ok (.iaload, 1) := by decide +kernel
theorem dX6_areApart_26 : decode cX6_areApart 26 = .ok (.iload_n 2, 1) := by decide +kernel
theorem dX6_areApart_27 : decode cX6_areApart 27 = .ok (.if_icmp .eq 23, 3) := by decide +kernel
theorem dX6_areApart_30 : decode cX6_areApart 30 = .ok (.aload_n 0, 1) := by decide +kernel
theorem dX6_areApart_31 : decode cX6_areApart 31 = .ok (.getfield 44, 3) := by decide +kernel
theorem dX6_areApart_34 : decode cX6_areApart 34 = .ok (.iload_n 3, 1) := by decide +kernel
theorem dX6_areApart_35 : decode cX6_areApart 35 = .ok (.iaload, 1) := by decide +kernel
theorem dX6_areApart_36 : decode cX6_areApart 36 = .ok (.iload_n 2, 1) := by decide +kernel
theorem dX6_areApart_37 : decode cX6_areApart 37 = .ok (.if_icmp .ne 15, 3) := by decide +kernel
theorem dX6_areApart_40 : decode cX6_areApart 40 = .ok (.aload_n 0, 1) := by decide +kernel
theorem dX6_areApart_41 : decode cX6_areApart 41 = .ok (.getfield 47, 3) := by decide +kernel
theorem dX6_areApart_44 : decode cX6_areApart 44 = .ok (.iload_n 3, 1) := by decide +kernel
theorem dX6_areApart_45 : decode cX6_areApart 45 = .ok (.iaload, 1) := by decide +kernel
theorem dX6_areApart_46 : decode cX6_areApart 46 = .ok (.iload_n 1, 1) := by decide +kernel
theorem dX6_areApart_47 : decode cX6_areApart 47 = .ok (.if_icmp .ne 5, 3) := by decide +kernel
theorem dX6_areApart_50 : decode cX6_areApart 50 = .ok (.iconst 1, 1) := by decide +kernel
theorem dX6_areApart_51 : decode cX6_areApart 51 = .ok (.ireturn, 1) := by decide +kernel
theorem dX6_areApart_52 : decode cX6_areApart 52 = .ok (.iinc 3 1, 3) := by decide +kernel
theorem dX6_areApart_55 : decode cX6_areApart 55 = .ok (.goto (-53), 3) := by decide +kernel
theorem dX6_areApart_58 : decode cX6_areApart 58 = .ok (.iconst 0, 1) := by decide +kernel
theorem dX6_areApart_59 : decode cX6_areApart 59 = .ok (.ireturn, 1) := by decide +kernel
theorem dX6_keepApart_0 : decode cX6_keepApart 0 = .ok (.aload_n 0, 1) := by decide +kernel
theorem dX6_keepApart_1 : decode cX6_keepApart 1 = .ok (.aload_n 0, 1) := by decide +kernel
theorem dX6_keepApart_2 : decode cX6_keepApart 2 = .ok (.iload_n 1, 1) := by decide +kernel
theorem dX6_keepApart_3 : decode cX6_keepApart 3 = .ok (.invokevirtual 94, 3) := by decide +kernel
theorem dX6_keepApart_6 : decode cX6_keepApart 6 = .ok (.ifCond .ne 11, 3) := by decide +kernel
theorem dX6_keepApart_9 : decode cX6_keepApart 9 = .ok (.aload_n 0, 1) := by decide +kernel
theorem dX6_keepApart_10 : decode cX6_keepApart 10 = .ok (.iload_n 2, 1) := by decide +kernel
theorem dX6_keepApart_11 : decode cX6_keepApart 11 = .ok (.invokevirtual 94, 3) := by decide +kernel
theorem dX6_keepApart_14 : decode cX6_keepApart 14 = .ok (.ifCond .eq 7, 3) := by decide +kernel
theorem dX6_keepApart_17 : decode cX6_keepApart 17 = .ok (.iconst 1, 1) := by decide +kernel
theorem dX6_keepApart_18 : decode cX6_keepApart 18 = .ok (.goto 39, 3) := by decide +kernel
theorem dX6_keepApart_21 : decode cX6_keepApart 21 = .ok (.iload_n 1, 1) := by decide +kernel
theorem dX6_keepApart_22 : decode cX6_keepApart 22 = .ok (.iload_n 2, 1) := by decide +kernel
theorem dX6_keepApart_23 : decode cX6_keepApart 23 = .ok (.if_icmp .ne 7, 3) := by decide +kernel
theorem dX6_keepApart_26 : decode cX6_keepApart 26 = .ok (.iconst 2, 1) := by decide +kernel
theorem dX6_keepApart_27 : decode cX6_keepApart 27 = .ok (.goto 30, 3) := by decide +kernel
theorem dX6_keepApart_30 : decode cX6_keepApart 30 = .ok (.aload_n 0, 1) := by decide +kernel
theorem dX6_keepApart_31 : decode cX6_keepApart 31 = .ok (.iload_n 1, 1) := by decide +kernel
theorem dX6_keepApart_32 : decode cX6_keepApart 32 = .ok (.iload_n 2, 1) := by decide +kernel
theorem dX6_keepApart_33 : decode cX6_keepApart 33 = .ok (.invokevirtual 100, 3) := by decide +kernel
theorem dX6_keepApart_36 : decode cX6_keepApart 36 = .ok (.ifCond .eq 7, 3) := by decide +kernel
theorem dX6_keepApart_39 : decode cX6_keepApart 39 = .ok (.iconst 3, 1) := by decide +kernel
theorem dX6_keepApart_40 : decode cX6_keepApart 40 = .ok (.goto 17, 3) := by decide +kernel
theorem dX6_keepApart_43 : decode cX6_keepApart 43 = .ok (.aload_n 0, 1) := by decide +kernel
theorem dX6_keepApart_44 : decode cX6_keepApart 44 = .ok (.getfield 97, 3) := by decide +kernel
theorem dX6_keepApart_47 : decode cX6_keepApart 47 = .ok (.bipush 6, 2) := by decide +kernel
theorem dX6_keepApart_49 : decode cX6_keepApart 49 = .ok (.if_icmp .ne 7, 3) := by decide +kernel
theorem dX6_keepApart_52 : decode cX6_keepApart 52 = .ok (.iconst 4, 1) := by decide +kernel
theorem dX6_keepApart_53 : decode cX6_keepApart 53 = .ok (.goto 4, 3) := by decide +kernel
theorem dX6_keepApart_56 : decode cX6_keepApart 56 = .ok (.iconst 0, 1) := by decide +kernel
theorem dX6_keepApart_57 : decode cX6_keepApart 57 = .ok (.invokevirtual 70, 3) := by decide +kernel
theorem dX6_keepApart_60 : decode cX6_keepApart 60 = .ok (.ifCond .eq 5, 3) := by decide +kernel
theorem dX6_keepApart_63 : decode cX6_keepApart 63 = .ok (.iconst 0, 1) := by decide +kernel
theorem dX6_keepApart_64 : decode cX6_keepApart 64 = .ok (.ireturn, 1) := by decide +kernel
theorem dX6_keepApart_65 : decode cX6_keepApart 65 = .ok (.aload_n 0, 1) := by decide +kernel
theorem dX6_keepApart_66 : decode cX6_keepApart 66 = .ok (.getfield 44, 3) := by decide +kernel
theorem dX6_keepApart_69 : decode cX6_keepApart 69 = .ok (.aload_n 0, 1) := by decide +kernel
theorem dX6_keepApart_70 : decode cX6_keepApart 70 = .ok (.getfield 97, 3) := by decide +kernel
theorem dX6_keepApart_73 : decode cX6_keepApart 73 = .ok (.iload_n 1, 1) := by decide +kernel
theorem dX6_keepApart_74 : decode cX6_keepApart 74 = .ok (.iastore, 1) := by decide +kernel
theorem dX6_keepApart_75 : decode cX6_keepApart 75 = .ok (.aload_n 0, 1) := by decide +kernel
theorem dX6_keepApart_76 : decode cX6_keepApart 76 = .ok (.getfield 47, 3) := by decide +kernel
theorem dX6_keepApart_79 : decode cX6_keepApart 79 = .ok (.aload_n 0, 1) := by decide +kernel
theorem dX6_keepApart_80 : decode cX6_keepApart 80 = .ok (.getfield 97, 3) := by decide +kernel
theorem dX6_keepApart_83 : decode cX6_keepApart 83 = .ok (.iload_n 2, 1) := by decide +kernel
theorem dX6_keepApart_84 : decode cX6_keepApart 84 = .ok (.iastore, 1) := by decide +kernel
theorem dX6_keepApart_85 : decode cX6_keepApart 85 = .ok (.aload_n 0, 1) := by decide +kernel
theorem dX6_keepApart_86 : decode cX6_keepApart 86 = .ok (.dup, 1) := by decide +kernel
theorem dX6_keepApart_87 : decode cX6_keepApart 87 = .ok (.getfield 97, 3) := by decide +kernel
theorem dX6_keepApart_90 : decode cX6_keepApart 90 = .ok (.iconst 1, 1) := by decide +kernel
theorem dX6_keepApart_91 : decode cX6_keepApart 91 = .ok (.iadd, 1) := by decide +kernel
theorem dX6_keepApart_92 : decode cX6_keepApart 92 = .ok (.putfield 97, 3) := by decide +kernel
theorem dX6_keepApart_95 : decode cX6_keepApart 95 = .ok (.aload_n 0, 1) := by decide +kernel
theorem dX6_keepApart_96 : decode cX6_keepApart 96 = .ok (.getfield 97, 3) := by decide +kernel
theorem dX6_keepApart_99 : decode cX6_keepApart 99 = .ok (.ireturn, 1) := by decide +kernel
theorem dX6_isBarred_0 : decode cX6_isBarred 0 = .ok (.iconst 0, 1) := by decide +kernel
theorem dX6_isBarred_1 : decode cX6_isBarred 1 = .ok (.istore_n 3, 1) := by decide +kernel
theorem dX6_isBarred_2 : decode cX6_isBarred 2 = .ok (.iload_n 3, 1) := by decide +kernel
theorem dX6_isBarred_3 : decode cX6_isBarred 3 = .ok (.aload_n 0, 1) := by decide +kernel
theorem dX6_isBarred_4 : decode cX6_isBarred 4 = .ok (.getfield 67, 3) := by decide +kernel
theorem dX6_isBarred_7 : decode cX6_isBarred 7 = .ok (.if_icmp .ge 34, 3) := by decide +kernel
theorem dX6_isBarred_10 : decode cX6_isBarred 10 = .ok (.iload_n 3, 1) := by decide +kernel
theorem dX6_isBarred_11 : decode cX6_isBarred 11 = .ok (.iload_n 1, 1) := by decide +kernel
theorem dX6_isBarred_12 : decode cX6_isBarred 12 = .ok (.if_icmp .eq 23, 3) := by decide +kernel
theorem dX6_isBarred_15 : decode cX6_isBarred 15 = .ok (.aload_n 0, 1) := by decide +kernel
theorem dX6_isBarred_16 : decode cX6_isBarred 16 = .ok (.iload_n 3, 1) := by decide +kernel
theorem dX6_isBarred_17 : decode cX6_isBarred 17 = .ok (.iload_n 2, 1) := by decide +kernel
theorem dX6_isBarred_18 : decode cX6_isBarred 18 = .ok (.invokevirtual 84, 3) := by decide +kernel
theorem dX6_isBarred_21 : decode cX6_isBarred 21 = .ok (.ifCond .eq 14, 3) := by decide +kernel
theorem dX6_isBarred_24 : decode cX6_isBarred 24 = .ok (.aload_n 0, 1) := by decide +kernel
theorem dX6_isBarred_25 : decode cX6_isBarred 25 = .ok (.iload_n 3, 1) := by decide +kernel
theorem dX6_isBarred_26 : decode cX6_isBarred 26 = .ok (.iload_n 1, 1) := by decide +kernel
theorem dX6_isBarred_27 : decode cX6_isBarred 27 = .ok (.invokevirtual 100, 3) := by decide +kernel
theorem dX6_isBarred_30 : decode cX6_isBarred 30 = .ok (.ifCond .eq 5, 3) := by decide +kernel
theorem dX6_isBarred_33 : decode cX6_isBarred 33 = .ok (.iconst 1, 1) := by decide +kernel
theorem dX6_isBarred_34 : decode cX6_isBarred 34 = .ok (.ireturn, 1) := by decide +kernel
theorem dX6_isBarred_35 : decode cX6_isBarred 35 = .ok (.iinc 3 1, 3) := by decide +kernel
theorem dX6_isBarred_38 : decode cX6_isBarred 38 = .ok (.goto (-36), 3) := by decide +kernel
theorem dX6_isBarred_41 : decode cX6_isBarred 41 = .ok (.iconst 0, 1) := by decide +kernel
theorem dX6_isBarred_42 : decode cX6_isBarred 42 = .ok (.ireturn, 1) := by decide +kernel
theorem dX6_hasRoom_0 : decode cX6_hasRoom 0 = .ok (.iload_n 3, 1) := by decide +kernel
theorem dX6_hasRoom_1 : decode cX6_hasRoom 1 = .ok (.istore 4, 2) := by decide +kernel
theorem dX6_hasRoom_3 : decode cX6_hasRoom 3 = .ok (.iload 4, 2) := by decide +kernel
theorem dX6_hasRoom_5 : decode cX6_hasRoom 5 = .ok (.iconst 3, 1) := by decide +kernel
theorem dX6_hasRoom_6 : decode cX6_hasRoom 6 = .ok (.if_icmp .ge 32, 3) := by decide +kernel
theorem dX6_hasRoom_9 : decode cX6_hasRoom 9 = .ok (.aload_n 0, 1) := by decide +kernel
theorem dX6_hasRoom_10 : decode cX6_hasRoom 10 = .ok (.iload_n 2, 1) := by decide +kernel
theorem dX6_hasRoom_11 : decode cX6_hasRoom 11 = .ok (.iload 4, 2) := by decide +kernel
theorem dX6_hasRoom_13 : decode cX6_hasRoom 13 = .ok (.aload_n 0, 1) := by decide +kernel
theorem dX6_hasRoom_14 : decode cX6_hasRoom 14 = .ok (.getfield 17, 3) := by decide +kernel
theorem dX6_hasRoom_17 : decode cX6_hasRoom 17 = .ok (.iconst 3, 1) := by decide +kernel
theorem dX6_hasRoom_18 : decode cX6_hasRoom 18 = .ok (.iload_n 1, 1) := by decide +kernel
theorem dX6_hasRoom_19 : decode cX6_hasRoom 19 = .ok (.imul, 1) := by decide +kernel
theorem dX6_hasRoom_20 : decode cX6_hasRoom 20 = .ok (.iload 4, 2) := by decide +kernel
theorem dX6_hasRoom_22 : decode cX6_hasRoom 22 = .ok (.iadd, 1) := by decide +kernel
theorem dX6_hasRoom_23 : decode cX6_hasRoom 23 = .ok (.iaload, 1) := by decide +kernel
theorem dX6_hasRoom_24 : decode cX6_hasRoom 24 = .ok (.invokevirtual 91, 3) := by decide +kernel
theorem dX6_hasRoom_27 : decode cX6_hasRoom 27 = .ok (.ifCond .eq 5, 3) := by decide +kernel
theorem dX6_hasRoom_30 : decode cX6_hasRoom 30 = .ok (.iconst 0, 1) := by decide +kernel
theorem dX6_hasRoom_31 : decode cX6_hasRoom 31 = .ok (.ireturn, 1) := by decide +kernel
theorem dX6_hasRoom_32 : decode cX6_hasRoom 32 = .ok (.iinc 4 1, 3) := by decide +kernel
theorem dX6_hasRoom_35 : decode cX6_hasRoom 35 = .ok (.goto (-32), 3) := by decide +kernel
theorem dX6_hasRoom_38 : decode cX6_hasRoom 38 = .ok (.iconst 1, 1) := by decide +kernel
theorem dX6_hasRoom_39 : decode cX6_hasRoom 39 = .ok (.ireturn, 1) := by decide +kernel
theorem dX6_why_0 : decode cX6_why 0 = .ok (.aload_n 0, 1) := by decide +kernel
theorem dX6_why_1 : decode cX6_why 1 = .ok (.getfield 32, 3) := by decide +kernel
theorem dX6_why_4 : decode cX6_why 4 = .ok (.iload_n 1, 1) := by decide +kernel
theorem dX6_why_5 : decode cX6_why 5 = .ok (.iaload, 1) := by decide +kernel
theorem dX6_why_6 : decode cX6_why 6 = .ok (.ifCond .eq 8, 3) := by decide +kernel
theorem dX6_why_9 : decode cX6_why 9 = .ok (.bipush 109, 2) := by decide +kernel
theorem dX6_why_11 : decode cX6_why 11 = .ok (.goto 63, 3) := by decide +kernel
theorem dX6_why_14 : decode cX6_why 14 = .ok (.aload_n 0, 1) := by decide +kernel
theorem dX6_why_15 : decode cX6_why 15 = .ok (.getfield 29, 3) := by decide +kernel
theorem dX6_why_18 : decode cX6_why 18 = .ok (.iload_n 1, 1) := by decide +kernel
theorem dX6_why_19 : decode cX6_why 19 = .ok (.iaload, 1) := by decide +kernel
theorem dX6_why_20 : decode cX6_why 20 = .ok (.iload_n 2, 1) := by decide +kernel
theorem dX6_why_21 : decode cX6_why 21 = .ok (.if_icmp .ne 8, 3) := by decide +kernel
theorem dX6_why_24 : decode cX6_why 24 = .ok (.bipush 115, 2) := by decide +kernel
theorem dX6_why_26 : decode cX6_why 26 = .ok (.goto 48, 3) := by decide +kernel
theorem dX6_why_29 : decode cX6_why 29 = .ok (.aload_n 0, 1) := by decide +kernel
theorem dX6_why_30 : decode cX6_why 30 = .ok (.getfield 13, 3) := by decide +kernel
theorem dX6_why_33 : decode cX6_why 33 = .ok (.iload_n 2, 1) := by decide +kernel
theorem dX6_why_34 : decode cX6_why 34 = .ok (.baload, 1) := by decide +kernel
theorem dX6_why_35 : decode cX6_why 35 = .ok (.ifCond .eq 8, 3) := by decide +kernel
theorem dX6_why_38 : decode cX6_why 38 = .ok (.bipush 99, 2) := by decide +kernel
theorem dX6_why_40 : decode cX6_why 40 = .ok (.goto 34, 3) := by decide +kernel
theorem dX6_why_43 : decode cX6_why 43 = .ok (.aload_n 0, 1) := by decide +kernel
theorem dX6_why_44 : decode cX6_why 44 = .ok (.iload_n 1, 1) := by decide +kernel
theorem dX6_why_45 : decode cX6_why 45 = .ok (.iload_n 2, 1) := by decide +kernel
theorem dX6_why_46 : decode cX6_why 46 = .ok (.invokevirtual 103, 3) := by decide +kernel
theorem dX6_why_49 : decode cX6_why 49 = .ok (.ifCond .eq 8, 3) := by decide +kernel
theorem dX6_why_52 : decode cX6_why 52 = .ok (.bipush 112, 2) := by decide +kernel
theorem dX6_why_54 : decode cX6_why 54 = .ok (.goto 20, 3) := by decide +kernel
theorem dX6_why_57 : decode cX6_why 57 = .ok (.aload_n 0, 1) := by decide +kernel
theorem dX6_why_58 : decode cX6_why 58 = .ok (.iload_n 1, 1) := by decide +kernel
theorem dX6_why_59 : decode cX6_why 59 = .ok (.iload_n 2, 1) := by decide +kernel
theorem dX6_why_60 : decode cX6_why 60 = .ok (.iconst 0, 1) := by decide +kernel
theorem dX6_why_61 : decode cX6_why 61 = .ok (.invokevirtual 106, 3) := by decide +kernel
theorem dX6_why_64 : decode cX6_why 64 = .ok (.ifCond .eq 8, 3) := by decide +kernel
theorem dX6_why_67 : decode cX6_why 67 = .ok (.bipush 110, 2) := by decide +kernel
theorem dX6_why_69 : decode cX6_why 69 = .ok (.goto 5, 3) := by decide +kernel
theorem dX6_why_72 : decode cX6_why 72 = .ok (.bipush 114, 2) := by decide +kernel
theorem dX6_why_74 : decode cX6_why 74 = .ok (.ireturn, 1) := by decide +kernel
theorem dX6_underWay_0 : decode cX6_underWay 0 = .ok (.iconst 0, 1) := by decide +kernel
theorem dX6_underWay_1 : decode cX6_underWay 1 = .ok (.istore_n 1, 1) := by decide +kernel
theorem dX6_underWay_2 : decode cX6_underWay 2 = .ok (.iconst 0, 1) := by decide +kernel
theorem dX6_underWay_3 : decode cX6_underWay 3 = .ok (.istore_n 2, 1) := by decide +kernel
theorem dX6_underWay_4 : decode cX6_underWay 4 = .ok (.iload_n 2, 1) := by decide +kernel
theorem dX6_underWay_5 : decode cX6_underWay 5 = .ok (.aload_n 0, 1) := by decide +kernel
theorem dX6_underWay_6 : decode cX6_underWay 6 = .ok (.getfield 67, 3) := by decide +kernel
theorem dX6_underWay_9 : decode cX6_underWay 9 = .ok (.if_icmp .ge 26, 3) := by decide +kernel
theorem dX6_underWay_12 : decode cX6_underWay 12 = .ok (.iload_n 1, 1) := by decide +kernel
theorem dX6_underWay_13 : decode cX6_underWay 13 = .ok (.aload_n 0, 1) := by decide +kernel
theorem dX6_underWay_14 : decode cX6_underWay 14 = .ok (.getfield 32, 3) := by decide +kernel
theorem dX6_underWay_17 : decode cX6_underWay 17 = .ok (.iload_n 2, 1) := by decide +kernel
theorem dX6_underWay_18 : decode cX6_underWay 18 = .ok (.iaload, 1) := by decide +kernel
theorem dX6_underWay_19 : decode cX6_underWay 19 = .ok (.ifCond .ne 7, 3) := by decide +kernel
theorem dX6_underWay_22 : decode cX6_underWay 22 = .ok (.iconst 0, 1) := by decide +kernel
theorem dX6_underWay_23 : decode cX6_underWay 23 = .ok (.goto 4, 3) := by decide +kernel
theorem dX6_underWay_26 : decode cX6_underWay 26 = .ok (.iconst 1, 1) := by decide +kernel
theorem dX6_underWay_27 : decode cX6_underWay 27 = .ok (.iadd, 1) := by decide +kernel
theorem dX6_underWay_28 : decode cX6_underWay 28 = .ok (.istore_n 1, 1) := by decide +kernel
theorem dX6_underWay_29 : decode cX6_underWay 29 = .ok (.iinc 2 1, 3) := by decide +kernel
theorem dX6_underWay_32 : decode cX6_underWay 32 = .ok (.goto (-28), 3) := by decide +kernel
theorem dX6_underWay_35 : decode cX6_underWay 35 = .ok (.iload_n 1, 1) := by decide +kernel
theorem dX6_underWay_36 : decode cX6_underWay 36 = .ok (.ireturn, 1) := by decide +kernel
theorem dX6_move_0 : decode cX6_move 0 = .ok (.aload_n 0, 1) := by decide +kernel
theorem dX6_move_1 : decode cX6_move 1 = .ok (.aload_n 0, 1) := by decide +kernel
theorem dX6_move_2 : decode cX6_move 2 = .ok (.iload_n 1, 1) := by decide +kernel
theorem dX6_move_3 : decode cX6_move 3 = .ok (.invokevirtual 94, 3) := by decide +kernel
theorem dX6_move_6 : decode cX6_move 6 = .ok (.ifCond .ne 11, 3) := by decide +kernel
theorem dX6_move_9 : decode cX6_move 9 = .ok (.aload_n 0, 1) := by decide +kernel
theorem dX6_move_10 : decode cX6_move 10 = .ok (.iload_n 2, 1) := by decide +kernel
theorem dX6_move_11 : decode cX6_move 11 = .ok (.invokevirtual 74, 3) := by decide +kernel
theorem dX6_move_14 : decode cX6_move 14 = .ok (.ifCond .eq 7, 3) := by decide +kernel
theorem dX6_move_17 : decode cX6_move 17 = .ok (.iconst 1, 1) := by decide +kernel
theorem dX6_move_18 : decode cX6_move 18 = .ok (.goto 31, 3) := by decide +kernel
theorem dX6_move_21 : decode cX6_move 21 = .ok (.aload_n 0, 1) := by decide +kernel
theorem dX6_move_22 : decode cX6_move 22 = .ok (.iload_n 1, 1) := by decide +kernel
theorem dX6_move_23 : decode cX6_move 23 = .ok (.iload_n 2, 1) := by decide +kernel
theorem dX6_move_24 : decode cX6_move 24 = .ok (.invokevirtual 109, 3) := by decide +kernel
theorem dX6_move_27 : decode cX6_move 27 = .ok (.bipush 110, 2) := by decide +kernel
theorem dX6_move_29 : decode cX6_move 29 = .ok (.if_icmp .eq 7, 3) := by decide +kernel
theorem dX6_move_32 : decode cX6_move 32 = .ok (.iconst 2, 1) := by decide +kernel
theorem dX6_move_33 : decode cX6_move 33 = .ok (.goto 16, 3) := by decide +kernel
theorem dX6_move_36 : decode cX6_move 36 = .ok (.aload_n 0, 1) := by decide +kernel
theorem dX6_move_37 : decode cX6_move 37 = .ok (.invokevirtual 113, 3) := by decide +kernel
theorem dX6_move_40 : decode cX6_move 40 = .ok (.iconst 3, 1) := by decide +kernel
theorem dX6_move_41 : decode cX6_move 41 = .ok (.if_icmp .ne 7, 3) := by decide +kernel
theorem dX6_move_44 : decode cX6_move 44 = .ok (.iconst 3, 1) := by decide +kernel
theorem dX6_move_45 : decode cX6_move 45 = .ok (.goto 4, 3) := by decide +kernel
theorem dX6_move_48 : decode cX6_move 48 = .ok (.iconst 0, 1) := by decide +kernel
theorem dX6_move_49 : decode cX6_move 49 = .ok (.invokevirtual 70, 3) := by decide +kernel
theorem dX6_move_52 : decode cX6_move 52 = .ok (.ifCond .eq 5, 3) := by decide +kernel
theorem dX6_move_55 : decode cX6_move 55 = .ok (.iconst 0, 1) := by decide +kernel
theorem dX6_move_56 : decode cX6_move 56 = .ok (.ireturn, 1) := by decide +kernel
theorem dX6_move_57 : decode cX6_move 57 = .ok (.aload_n 0, 1) := by decide +kernel
theorem dX6_move_58 : decode cX6_move 58 = .ok (.getfield 32, 3) := by decide +kernel
theorem dX6_move_61 : decode cX6_move 61 = .ok (.iload_n 1, 1) := by decide +kernel
theorem dX6_move_62 : decode cX6_move 62 = .ok (.iconst 1, 1) := by decide +kernel
theorem dX6_move_63 : decode cX6_move 63 = .ok (.iastore, 1) := by decide +kernel
theorem dX6_move_64 : decode cX6_move 64 = .ok (.aload_n 0, 1) := by decide +kernel
theorem dX6_move_65 : decode cX6_move 65 = .ok (.getfield 35, 3) := by decide +kernel
theorem dX6_move_68 : decode cX6_move 68 = .ok (.iload_n 1, 1) := by decide +kernel
theorem dX6_move_69 : decode cX6_move 69 = .ok (.aload_n 0, 1) := by decide +kernel
theorem dX6_move_70 : decode cX6_move 70 = .ok (.getfield 29, 3) := by decide +kernel
theorem dX6_move_73 : decode cX6_move 73 = .ok (.iload_n 1, 1) := by decide +kernel
theorem dX6_move_74 : decode cX6_move 74 = .ok (.iaload, 1) := by decide +kernel
theorem dX6_move_75 : decode cX6_move 75 = .ok (.iastore, 1) := by decide +kernel
theorem dX6_move_76 : decode cX6_move 76 = .ok (.aload_n 0, 1) := by decide +kernel
theorem dX6_move_77 : decode cX6_move 77 = .ok (.getfield 38, 3) := by decide +kernel
theorem dX6_move_80 : decode cX6_move 80 = .ok (.iload_n 1, 1) := by decide +kernel
theorem dX6_move_81 : decode cX6_move 81 = .ok (.iload_n 2, 1) := by decide +kernel
theorem dX6_move_82 : decode cX6_move 82 = .ok (.iastore, 1) := by decide +kernel
theorem dX6_move_83 : decode cX6_move 83 = .ok (.aload_n 0, 1) := by decide +kernel
theorem dX6_move_84 : decode cX6_move 84 = .ok (.getfield 41, 3) := by decide +kernel
theorem dX6_move_87 : decode cX6_move 87 = .ok (.iload_n 1, 1) := by decide +kernel
theorem dX6_move_88 : decode cX6_move 88 = .ok (.aload_n 0, 1) := by decide +kernel
theorem dX6_move_89 : decode cX6_move 89 = .ok (.getfield 17, 3) := by decide +kernel
theorem dX6_move_92 : decode cX6_move 92 = .ok (.iconst 3, 1) := by decide +kernel
theorem dX6_move_93 : decode cX6_move 93 = .ok (.iload_n 1, 1) := by decide +kernel
theorem dX6_move_94 : decode cX6_move 94 = .ok (.imul, 1) := by decide +kernel
theorem dX6_move_95 : decode cX6_move 95 = .ok (.iaload, 1) := by decide +kernel
theorem dX6_move_96 : decode cX6_move 96 = .ok (.bipush 19, 2) := by decide +kernel
theorem dX6_move_98 : decode cX6_move 98 = .ok (.iadd, 1) := by decide +kernel
theorem dX6_move_99 : decode cX6_move 99 = .ok (.bipush 20, 2) := by decide +kernel
theorem dX6_move_101 : decode cX6_move 101 = .ok (.idiv, 1) := by decide +kernel
theorem dX6_move_102 : decode cX6_move 102 = .ok (.iastore, 1) := by decide +kernel
theorem dX6_move_103 : decode cX6_move 103 = .ok (.aload_n 0, 1) := by decide +kernel
theorem dX6_move_104 : decode cX6_move 104 = .ok (.getfield 41, 3) := by decide +kernel
theorem dX6_move_107 : decode cX6_move 107 = .ok (.iload_n 1, 1) := by decide +kernel
theorem dX6_move_108 : decode cX6_move 108 = .ok (.iaload, 1) := by decide +kernel
theorem dX6_move_109 : decode cX6_move 109 = .ok (.ireturn, 1) := by decide +kernel
theorem dX6_reason_0 : decode cX6_reason 0 = .ok (.aload_n 0, 1) := by decide +kernel
theorem dX6_reason_1 : decode cX6_reason 1 = .ok (.aload_n 0, 1) := by decide +kernel
theorem dX6_reason_2 : decode cX6_reason 2 = .ok (.iload_n 1, 1) := by decide +kernel
theorem dX6_reason_3 : decode cX6_reason 3 = .ok (.invokevirtual 94, 3) := by decide +kernel
theorem dX6_reason_6 : decode cX6_reason 6 = .ok (.ifCond .ne 11, 3) := by decide +kernel
theorem dX6_reason_9 : decode cX6_reason 9 = .ok (.aload_n 0, 1) := by decide +kernel
theorem dX6_reason_10 : decode cX6_reason 10 = .ok (.iload_n 2, 1) := by decide +kernel
theorem dX6_reason_11 : decode cX6_reason 11 = .ok (.invokevirtual 74, 3) := by decide +kernel
theorem dX6_reason_14 : decode cX6_reason 14 = .ok (.ifCond .eq 7, 3) := by decide +kernel
theorem dX6_reason_17 : decode cX6_reason 17 = .ok (.iconst 1, 1) := by decide +kernel
theorem dX6_reason_18 : decode cX6_reason 18 = .ok (.goto 4, 3) := by decide +kernel
theorem dX6_reason_21 : decode cX6_reason 21 = .ok (.iconst 0, 1) := by decide +kernel
theorem dX6_reason_22 : decode cX6_reason 22 = .ok (.invokevirtual 70, 3) := by decide +kernel
theorem dX6_reason_25 : decode cX6_reason 25 = .ok (.ifCond .eq 8, 3) := by decide +kernel
theorem dX6_reason_28 : decode cX6_reason 28 = .ok (.bipush 97, 2) := by decide +kernel
theorem dX6_reason_30 : decode cX6_reason 30 = .ok (.goto 9, 3) := by decide +kernel
theorem dX6_reason_33 : decode cX6_reason 33 = .ok (.aload_n 0, 1) := by decide +kernel
theorem dX6_reason_34 : decode cX6_reason 34 = .ok (.iload_n 1, 1) := by decide +kernel
theorem dX6_reason_35 : decode cX6_reason 35 = .ok (.iload_n 2, 1) := by decide +kernel
theorem dX6_reason_36 : decode cX6_reason 36 = .ok (.invokevirtual 109, 3) := by decide +kernel
theorem dX6_reason_39 : decode cX6_reason 39 = .ok (.ireturn, 1) := by decide +kernel
theorem dX6_fail_0 : decode cX6_fail 0 = .ok (.aload_n 0, 1) := by decide +kernel
theorem dX6_fail_1 : decode cX6_fail 1 = .ok (.aload_n 0, 1) := by decide +kernel
theorem dX6_fail_2 : decode cX6_fail 2 = .ok (.iload_n 1, 1) := by decide +kernel
theorem dX6_fail_3 : decode cX6_fail 3 = .ok (.invokevirtual 94, 3) := by decide +kernel
theorem dX6_fail_6 : decode cX6_fail 6 = .ok (.ifCond .eq 7, 3) := by decide +kernel
theorem dX6_fail_9 : decode cX6_fail 9 = .ok (.iconst 1, 1) := by decide +kernel
theorem dX6_fail_10 : decode cX6_fail 10 = .ok (.goto 17, 3) := by decide +kernel
theorem dX6_fail_13 : decode cX6_fail 13 = .ok (.aload_n 0, 1) := by decide +kernel
theorem dX6_fail_14 : decode cX6_fail 14 = .ok (.getfield 32, 3) := by decide +kernel
theorem dX6_fail_17 : decode cX6_fail 17 = .ok (.iload_n 1, 1) := by decide +kernel
theorem dX6_fail_18 : decode cX6_fail 18 = .ok (.iaload, 1) := by decide +kernel
theorem dX6_fail_19 : decode cX6_fail 19 = .ok (.ifCond .ne 7, 3) := by decide +kernel
theorem dX6_fail_22 : decode cX6_fail 22 = .ok (.iconst 2, 1) := by decide +kernel
theorem dX6_fail_23 : decode cX6_fail 23 = .ok (.goto 4, 3) := by decide +kernel
theorem dX6_fail_26 : decode cX6_fail 26 = .ok (.iconst 0, 1) := by decide +kernel
theorem dX6_fail_27 : decode cX6_fail 27 = .ok (.invokevirtual 70, 3) := by decide +kernel
theorem dX6_fail_30 : decode cX6_fail 30 = .ok (.ifCond .eq 6, 3) := by decide +kernel
theorem dX6_fail_33 : decode cX6_fail 33 = .ok (.bipush 97, 2) := by decide +kernel
theorem dX6_fail_35 : decode cX6_fail 35 = .ok (.ireturn, 1) := by decide +kernel
theorem dX6_fail_36 : decode cX6_fail 36 = .ok (.aload_n 0, 1) := by decide +kernel
theorem dX6_fail_37 : decode cX6_fail 37 = .ok (.getfield 32, 3) := by decide +kernel
theorem dX6_fail_40 : decode cX6_fail 40 = .ok (.iload_n 1, 1) := by decide +kernel
theorem dX6_fail_41 : decode cX6_fail 41 = .ok (.iaload, 1) := by decide +kernel
theorem dX6_fail_42 : decode cX6_fail 42 = .ok (.iconst 3, 1) := by decide +kernel
theorem dX6_fail_43 : decode cX6_fail 43 = .ok (.if_icmp .eq 13, 3) := by decide +kernel
theorem dX6_fail_46 : decode cX6_fail 46 = .ok (.aload_n 0, 1) := by decide +kernel
theorem dX6_fail_47 : decode cX6_fail 47 = .ok (.getfield 32, 3) := by decide +kernel
theorem dX6_fail_50 : decode cX6_fail 50 = .ok (.iload_n 1, 1) := by decide +kernel
theorem dX6_fail_51 : decode cX6_fail 51 = .ok (.iconst 0, 1) := by decide +kernel
theorem dX6_fail_52 : decode cX6_fail 52 = .ok (.iastore, 1) := by decide +kernel
theorem dX6_fail_53 : decode cX6_fail 53 = .ok (.bipush 101, 2) := by decide +kernel
theorem dX6_fail_55 : decode cX6_fail 55 = .ok (.ireturn, 1) := by decide +kernel
theorem dX6_fail_56 : decode cX6_fail 56 = .ok (.aload_n 0, 1) := by decide +kernel
theorem dX6_fail_57 : decode cX6_fail 57 = .ok (.getfield 41, 3) := by decide +kernel
theorem dX6_fail_60 : decode cX6_fail 60 = .ok (.iload_n 1, 1) := by decide +kernel
theorem dX6_fail_61 : decode cX6_fail 61 = .ok (.iconst 2, 1) := by decide +kernel
theorem dX6_fail_62 : decode cX6_fail 62 = .ok (.iastore, 1) := by decide +kernel
theorem dX6_fail_63 : decode cX6_fail 63 = .ok (.aload_n 0, 1) := by decide +kernel
theorem dX6_fail_64 : decode cX6_fail 64 = .ok (.getfield 35, 3) := by decide +kernel
theorem dX6_fail_67 : decode cX6_fail 67 = .ok (.iload_n 1, 1) := by decide +kernel
theorem dX6_fail_68 : decode cX6_fail 68 = .ok (.iaload, 1) := by decide +kernel
theorem dX6_fail_69 : decode cX6_fail 69 = .ok (.istore_n 2, 1) := by decide +kernel
theorem dX6_fail_70 : decode cX6_fail 70 = .ok (.aload_n 0, 1) := by decide +kernel
theorem dX6_fail_71 : decode cX6_fail 71 = .ok (.getfield 13, 3) := by decide +kernel
theorem dX6_fail_74 : decode cX6_fail 74 = .ok (.iload_n 2, 1) := by decide +kernel
theorem dX6_fail_75 : decode cX6_fail 75 = .ok (.baload, 1) := by decide +kernel
theorem dX6_fail_76 : decode cX6_fail 76 = .ok (.ifCond .ne 22, 3) := by decide +kernel
theorem dX6_fail_79 : decode cX6_fail 79 = .ok (.aload_n 0, 1) := by decide +kernel
theorem dX6_fail_80 : decode cX6_fail 80 = .ok (.iload_n 1, 1) := by decide +kernel
theorem dX6_fail_81 : decode cX6_fail 81 = .ok (.iload_n 2, 1) := by decide +kernel
theorem dX6_fail_82 : decode cX6_fail 82 = .ok (.invokevirtual 103, 3) := by decide +kernel
theorem dX6_fail_85 : decode cX6_fail 85 = .ok (.ifCond .ne 13, 3) := by decide +kernel
theorem dX6_fail_88 : decode cX6_fail 88 = .ok (.aload_n 0, 1) := by decide +kernel
theorem dX6_fail_89 : decode cX6_fail 89 = .ok (.iload_n 1, 1) := by decide +kernel
theorem dX6_fail_90 : decode cX6_fail 90 = .ok (.iload_n 2, 1) := by decide +kernel
theorem dX6_fail_91 : decode cX6_fail 91 = .ok (.iconst 1, 1) := by decide +kernel
theorem dX6_fail_92 : decode cX6_fail 92 = .ok (.invokevirtual 106, 3) := by decide +kernel
theorem dX6_fail_95 : decode cX6_fail 95 = .ok (.ifCond .ne 6, 3) := by decide +kernel
theorem dX6_fail_98 : decode cX6_fail 98 = .ok (.bipush 97, 2) := by decide +kernel
theorem dX6_fail_100 : decode cX6_fail 100 = .ok (.ireturn, 1) := by decide +kernel
theorem dX6_fail_101 : decode cX6_fail 101 = .ok (.aload_n 0, 1) := by decide +kernel
theorem dX6_fail_102 : decode cX6_fail 102 = .ok (.getfield 35, 3) := by decide +kernel
theorem dX6_fail_105 : decode cX6_fail 105 = .ok (.iload_n 1, 1) := by decide +kernel
theorem dX6_fail_106 : decode cX6_fail 106 = .ok (.aload_n 0, 1) := by decide +kernel
theorem dX6_fail_107 : decode cX6_fail 107 = .ok (.getfield 38, 3) := by decide +kernel
theorem dX6_fail_110 : decode cX6_fail 110 = .ok (.iload_n 1, 1) := by decide +kernel
theorem dX6_fail_111 : decode cX6_fail 111 = .ok (.iaload, 1) := by decide +kernel
theorem dX6_fail_112 : decode cX6_fail 112 = .ok (.iastore, 1) := by decide +kernel
theorem dX6_fail_113 : decode cX6_fail 113 = .ok (.aload_n 0, 1) := by decide +kernel
theorem dX6_fail_114 : decode cX6_fail 114 = .ok (.getfield 38, 3) := by decide +kernel
theorem dX6_fail_117 : decode cX6_fail 117 = .ok (.iload_n 1, 1) := by decide +kernel
theorem dX6_fail_118 : decode cX6_fail 118 = .ok (.iload_n 2, 1) := by decide +kernel
theorem dX6_fail_119 : decode cX6_fail 119 = .ok (.iastore, 1) := by decide +kernel
theorem dX6_fail_120 : decode cX6_fail 120 = .ok (.aload_n 0, 1) := by decide +kernel
theorem dX6_fail_121 : decode cX6_fail 121 = .ok (.getfield 29, 3) := by decide +kernel
theorem dX6_fail_124 : decode cX6_fail 124 = .ok (.iload_n 1, 1) := by decide +kernel
theorem dX6_fail_125 : decode cX6_fail 125 = .ok (.iload_n 2, 1) := by decide +kernel
theorem dX6_fail_126 : decode cX6_fail 126 = .ok (.iastore, 1) := by decide +kernel
theorem dX6_fail_127 : decode cX6_fail 127 = .ok (.aload_n 0, 1) := by decide +kernel
theorem dX6_fail_128 : decode cX6_fail 128 = .ok (.dup, 1) := by decide +kernel
theorem dX6_fail_129 : decode cX6_fail 129 = .ok (.getfield 117, 3) := by decide +kernel
theorem dX6_fail_132 : decode cX6_fail 132 = .ok (.iconst 1, 1) := by decide +kernel
theorem dX6_fail_133 : decode cX6_fail 133 = .ok (.iadd, 1) := by decide +kernel
theorem dX6_fail_134 : decode cX6_fail 134 = .ok (.putfield 117, 3) := by decide +kernel
theorem dX6_fail_137 : decode cX6_fail 137 = .ok (.bipush 98, 2) := by decide +kernel
theorem dX6_fail_139 : decode cX6_fail 139 = .ok (.ireturn, 1) := by decide +kernel
theorem dX6_isTooMuch_0 : decode cX6_isTooMuch 0 = .ok (.iconst 0, 1) := by decide +kernel
theorem dX6_isTooMuch_1 : decode cX6_isTooMuch 1 = .ok (.istore_n 2, 1) := by decide +kernel
theorem dX6_isTooMuch_2 : decode cX6_isTooMuch 2 = .ok (.iload_n 2, 1) := by decide +kernel
theorem dX6_isTooMuch_3 : decode cX6_isTooMuch 3 = .ok (.iconst 3, 1) := by decide +kernel
theorem dX6_isTooMuch_4 : decode cX6_isTooMuch 4 = .ok (.if_icmp .ge 21, 3) := by decide +kernel
theorem dX6_isTooMuch_7 : decode cX6_isTooMuch 7 = .ok (.aload_n 0, 1) := by decide +kernel
theorem dX6_isTooMuch_8 : decode cX6_isTooMuch 8 = .ok (.iload_n 1, 1) := by decide +kernel
theorem dX6_isTooMuch_9 : decode cX6_isTooMuch 9 = .ok (.iload_n 2, 1) := by decide +kernel
theorem dX6_isTooMuch_10 : decode cX6_isTooMuch 10 = .ok (.iconst 0, 1) := by decide +kernel
theorem dX6_isTooMuch_11 : decode cX6_isTooMuch 11 = .ok (.invokevirtual 91, 3) := by decide +kernel
theorem dX6_isTooMuch_14 : decode cX6_isTooMuch 14 = .ok (.ifCond .eq 5, 3) := by decide +kernel
theorem dX6_isTooMuch_17 : decode cX6_isTooMuch 17 = .ok (.iconst 1, 1) := by decide +kernel
theorem dX6_isTooMuch_18 : decode cX6_isTooMuch 18 = .ok (.ireturn, 1) := by decide +kernel
theorem dX6_isTooMuch_19 : decode cX6_isTooMuch 19 = .ok (.iinc 2 1, 3) := by decide +kernel
theorem dX6_isTooMuch_22 : decode cX6_isTooMuch 22 = .ok (.goto (-20), 3) := by decide +kernel
theorem dX6_isTooMuch_25 : decode cX6_isTooMuch 25 = .ok (.iconst 0, 1) := by decide +kernel
theorem dX6_isTooMuch_26 : decode cX6_isTooMuch 26 = .ok (.ireturn, 1) := by decide +kernel
theorem dX6_goesOn_0 : decode cX6_goesOn 0 = .ok (.aload_n 0, 1) := by decide +kernel
theorem dX6_goesOn_1 : decode cX6_goesOn 1 = .ok (.getfield 32, 3) := by decide +kernel
theorem dX6_goesOn_4 : decode cX6_goesOn 4 = .ok (.iload_n 1, 1) := by decide +kernel
theorem dX6_goesOn_5 : decode cX6_goesOn 5 = .ok (.iaload, 1) := by decide +kernel
theorem dX6_goesOn_6 : decode cX6_goesOn 6 = .ok (.iconst 2, 1) := by decide +kernel
theorem dX6_goesOn_7 : decode cX6_goesOn 7 = .ok (.if_icmp .ne 48, 3) := by decide +kernel
theorem dX6_goesOn_10 : decode cX6_goesOn 10 = .ok (.aload_n 0, 1) := by decide +kernel
theorem dX6_goesOn_11 : decode cX6_goesOn 11 = .ok (.iload_n 1, 1) := by decide +kernel
theorem dX6_goesOn_12 : decode cX6_goesOn 12 = .ok (.aload_n 0, 1) := by decide +kernel
theorem dX6_goesOn_13 : decode cX6_goesOn 13 = .ok (.getfield 120, 3) := by decide +kernel
theorem dX6_goesOn_16 : decode cX6_goesOn 16 = .ok (.bipush 24, 2) := by decide +kernel
theorem dX6_goesOn_18 : decode cX6_goesOn 18 = .ok (.irem, 1) := by decide +kernel
theorem dX6_goesOn_19 : decode cX6_goesOn 19 = .ok (.invokevirtual 123, 3) := by decide +kernel
theorem dX6_goesOn_22 : decode cX6_goesOn 22 = .ok (.ifCond .ne 5, 3) := by decide +kernel
theorem dX6_goesOn_25 : decode cX6_goesOn 25 = .ok (.iconst 0, 1) := by decide +kernel
theorem dX6_goesOn_26 : decode cX6_goesOn 26 = .ok (.ireturn, 1) := by decide +kernel
theorem dX6_goesOn_27 : decode cX6_goesOn 27 = .ok (.aload_n 0, 1) := by decide +kernel
theorem dX6_goesOn_28 : decode cX6_goesOn 28 = .ok (.getfield 29, 3) := by decide +kernel
theorem dX6_goesOn_31 : decode cX6_goesOn 31 = .ok (.iload_n 1, 1) := by decide +kernel
theorem dX6_goesOn_32 : decode cX6_goesOn 32 = .ok (.aload_n 0, 1) := by decide +kernel
theorem dX6_goesOn_33 : decode cX6_goesOn 33 = .ok (.getfield 38, 3) := by decide +kernel
theorem dX6_goesOn_36 : decode cX6_goesOn 36 = .ok (.iload_n 1, 1) := by decide +kernel
theorem dX6_goesOn_37 : decode cX6_goesOn 37 = .ok (.iaload, 1) := by decide +kernel
theorem dX6_goesOn_38 : decode cX6_goesOn 38 = .ok (.iastore, 1) := by decide +kernel
theorem dX6_goesOn_39 : decode cX6_goesOn 39 = .ok (.aload_n 0, 1) := by decide +kernel
theorem dX6_goesOn_40 : decode cX6_goesOn 40 = .ok (.getfield 32, 3) := by decide +kernel
theorem dX6_goesOn_43 : decode cX6_goesOn 43 = .ok (.iload_n 1, 1) := by decide +kernel
theorem dX6_goesOn_44 : decode cX6_goesOn 44 = .ok (.iconst 3, 1) := by decide +kernel
theorem dX6_goesOn_45 : decode cX6_goesOn 45 = .ok (.iastore, 1) := by decide +kernel
theorem dX6_goesOn_46 : decode cX6_goesOn 46 = .ok (.aload_n 0, 1) := by decide +kernel
theorem dX6_goesOn_47 : decode cX6_goesOn 47 = .ok (.getfield 41, 3) := by decide +kernel
theorem dX6_goesOn_50 : decode cX6_goesOn 50 = .ok (.iload_n 1, 1) := by decide +kernel
theorem dX6_goesOn_51 : decode cX6_goesOn 51 = .ok (.iconst 2, 1) := by decide +kernel
theorem dX6_goesOn_52 : decode cX6_goesOn 52 = .ok (.iastore, 1) := by decide +kernel
theorem dX6_goesOn_53 : decode cX6_goesOn 53 = .ok (.iconst 1, 1) := by decide +kernel
theorem dX6_goesOn_54 : decode cX6_goesOn 54 = .ok (.ireturn, 1) := by decide +kernel
theorem dX6_goesOn_55 : decode cX6_goesOn 55 = .ok (.aload_n 0, 1) := by decide +kernel
theorem dX6_goesOn_56 : decode cX6_goesOn 56 = .ok (.getfield 32, 3) := by decide +kernel
theorem dX6_goesOn_59 : decode cX6_goesOn 59 = .ok (.iload_n 1, 1) := by decide +kernel
theorem dX6_goesOn_60 : decode cX6_goesOn 60 = .ok (.iaload, 1) := by decide +kernel
theorem dX6_goesOn_61 : decode cX6_goesOn 61 = .ok (.ifCond .ne 5, 3) := by decide +kernel
theorem dX6_goesOn_64 : decode cX6_goesOn 64 = .ok (.iconst 0, 1) := by decide +kernel
theorem dX6_goesOn_65 : decode cX6_goesOn 65 = .ok (.ireturn, 1) := by decide +kernel
theorem dX6_goesOn_66 : decode cX6_goesOn 66 = .ok (.aload_n 0, 1) := by decide +kernel
theorem dX6_goesOn_67 : decode cX6_goesOn 67 = .ok (.getfield 41, 3) := by decide +kernel
theorem dX6_goesOn_70 : decode cX6_goesOn 70 = .ok (.iload_n 1, 1) := by decide +kernel
theorem dX6_goesOn_71 : decode cX6_goesOn 71 = .ok (.dup2, 1) := by decide +kernel
theorem dX6_goesOn_72 : decode cX6_goesOn 72 = .ok (.iaload, 1) := by decide +kernel
theorem dX6_goesOn_73 : decode cX6_goesOn 73 = .ok (.iconst 1, 1) := by decide +kernel
theorem dX6_goesOn_74 : decode cX6_goesOn 74 = .ok (.isub, 1) := by decide +kernel
theorem dX6_goesOn_75 : decode cX6_goesOn 75 = .ok (.iastore, 1) := by decide +kernel
theorem dX6_goesOn_76 : decode cX6_goesOn 76 = .ok (.aload_n 0, 1) := by decide +kernel
theorem dX6_goesOn_77 : decode cX6_goesOn 77 = .ok (.getfield 41, 3) := by decide +kernel
theorem dX6_goesOn_80 : decode cX6_goesOn 80 = .ok (.iload_n 1, 1) := by decide +kernel
theorem dX6_goesOn_81 : decode cX6_goesOn 81 = .ok (.iaload, 1) := by decide +kernel
theorem dX6_goesOn_82 : decode cX6_goesOn 82 = .ok (.ifCond .ne 24, 3) := by decide +kernel
theorem dX6_goesOn_85 : decode cX6_goesOn 85 = .ok (.aload_n 0, 1) := by decide +kernel
theorem dX6_goesOn_86 : decode cX6_goesOn 86 = .ok (.getfield 32, 3) := by decide +kernel
theorem dX6_goesOn_89 : decode cX6_goesOn 89 = .ok (.iload_n 1, 1) := by decide +kernel
theorem dX6_goesOn_90 : decode cX6_goesOn 90 = .ok (.aload_n 0, 1) := by decide +kernel
theorem dX6_goesOn_91 : decode cX6_goesOn 91 = .ok (.getfield 32, 3) := by decide +kernel
theorem dX6_goesOn_94 : decode cX6_goesOn 94 = .ok (.iload_n 1, 1) := by decide +kernel
theorem dX6_goesOn_95 : decode cX6_goesOn 95 = .ok (.iaload, 1) := by decide +kernel
theorem dX6_goesOn_96 : decode cX6_goesOn 96 = .ok (.iconst 1, 1) := by decide +kernel
theorem dX6_goesOn_97 : decode cX6_goesOn 97 = .ok (.if_icmp .ne 7, 3) := by decide +kernel
theorem dX6_goesOn_100 : decode cX6_goesOn 100 = .ok (.iconst 2, 1) := by decide +kernel
theorem dX6_goesOn_101 : decode cX6_goesOn 101 = .ok (.goto 4, 3) := by decide +kernel
theorem dX6_goesOn_104 : decode cX6_goesOn 104 = .ok (.iconst 0, 1) := by decide +kernel
theorem dX6_goesOn_105 : decode cX6_goesOn 105 = .ok (.iastore, 1) := by decide +kernel
theorem dX6_goesOn_106 : decode cX6_goesOn 106 = .ok (.iconst 0, 1) := by decide +kernel
theorem dX6_goesOn_107 : decode cX6_goesOn 107 = .ok (.ireturn, 1) := by decide +kernel
theorem dX6_hour_0 : decode cX6_hour 0 = .ok (.iconst 0, 1) := by decide +kernel
theorem dX6_hour_1 : decode cX6_hour 1 = .ok (.istore_n 1, 1) := by decide +kernel
theorem dX6_hour_2 : decode cX6_hour 2 = .ok (.iconst 0, 1) := by decide +kernel
theorem dX6_hour_3 : decode cX6_hour 3 = .ok (.istore_n 2, 1) := by decide +kernel
theorem dX6_hour_4 : decode cX6_hour 4 = .ok (.iload_n 2, 1) := by decide +kernel
theorem dX6_hour_5 : decode cX6_hour 5 = .ok (.aload_n 0, 1) := by decide +kernel
theorem dX6_hour_6 : decode cX6_hour 6 = .ok (.getfield 67, 3) := by decide +kernel
theorem dX6_hour_9 : decode cX6_hour 9 = .ok (.if_icmp .ge 36, 3) := by decide +kernel
theorem dX6_hour_12 : decode cX6_hour 12 = .ok (.aload_n 0, 1) := by decide +kernel
theorem dX6_hour_13 : decode cX6_hour 13 = .ok (.dup, 1) := by decide +kernel
theorem dX6_hour_14 : decode cX6_hour 14 = .ok (.getfield 126, 3) := by decide +kernel
theorem dX6_hour_17 : decode cX6_hour 17 = .ok (.aload_n 0, 1) := by decide +kernel
theorem dX6_hour_18 : decode cX6_hour 18 = .ok (.aload_n 0, 1) := by decide +kernel
theorem dX6_hour_19 : decode cX6_hour 19 = .ok (.getfield 29, 3) := by decide +kernel
theorem dX6_hour_22 : decode cX6_hour 22 = .ok (.iload_n 2, 1) := by decide +kernel
theorem dX6_hour_23 : decode cX6_hour 23 = .ok (.iaload, 1) := by decide +kernel
theorem dX6_hour_24 : decode cX6_hour 24 = .ok (.invokevirtual 130, 3) := by decide +kernel
theorem dX6_hour_27 : decode cX6_hour 27 = .ok (.ifCond .eq 7, 3) := by decide +kernel
theorem dX6_hour_30 : decode cX6_hour 30 = .ok (.lconst 1, 1) := by decide +kernel
theorem dX6_hour_31 : decode cX6_hour 31 = .ok (.goto 4, 3) := by decide +kernel
theorem dX6_hour_34 : decode cX6_hour 34 = .ok (.lconst 0, 1) := by decide +kernel
theorem dX6_hour_35 : decode cX6_hour 35 = .ok (.ladd, 1) := by decide +kernel
theorem dX6_hour_36 : decode cX6_hour 36 = .ok (.putfield 126, 3) := by decide +kernel
theorem dX6_hour_39 : decode cX6_hour 39 = .ok (.iinc 2 1, 3) := by decide +kernel
theorem dX6_hour_42 : decode cX6_hour 42 = .ok (.goto (-38), 3) := by decide +kernel
theorem dX6_hour_45 : decode cX6_hour 45 = .ok (.iconst 0, 1) := by decide +kernel
theorem dX6_hour_46 : decode cX6_hour 46 = .ok (.istore_n 2, 1) := by decide +kernel
theorem dX6_hour_47 : decode cX6_hour 47 = .ok (.iload_n 2, 1) := by decide +kernel
theorem dX6_hour_48 : decode cX6_hour 48 = .ok (.aload_n 0, 1) := by decide +kernel
theorem dX6_hour_49 : decode cX6_hour 49 = .ok (.getfield 67, 3) := by decide +kernel
theorem dX6_hour_52 : decode cX6_hour 52 = .ok (.if_icmp .ge 25, 3) := by decide +kernel
theorem dX6_hour_55 : decode cX6_hour 55 = .ok (.iload_n 1, 1) := by decide +kernel
theorem dX6_hour_56 : decode cX6_hour 56 = .ok (.aload_n 0, 1) := by decide +kernel
theorem dX6_hour_57 : decode cX6_hour 57 = .ok (.iload_n 2, 1) := by decide +kernel
theorem dX6_hour_58 : decode cX6_hour 58 = .ok (.invokevirtual 133, 3) := by decide +kernel
theorem dX6_hour_61 : decode cX6_hour 61 = .ok (.ifCond .eq 7, 3) := by decide +kernel
theorem dX6_hour_64 : decode cX6_hour 64 = .ok (.iconst 1, 1) := by decide +kernel
theorem dX6_hour_65 : decode cX6_hour 65 = .ok (.goto 4, 3) := by decide +kernel
theorem dX6_hour_68 : decode cX6_hour 68 = .ok (.iconst 0, 1) := by decide +kernel
theorem dX6_hour_69 : decode cX6_hour 69 = .ok (.iadd, 1) := by decide +kernel
theorem dX6_hour_70 : decode cX6_hour 70 = .ok (.istore_n 1, 1) := by decide +kernel
theorem dX6_hour_71 : decode cX6_hour 71 = .ok (.iinc 2 1, 3) := by decide +kernel
theorem dX6_hour_74 : decode cX6_hour 74 = .ok (.goto (-27), 3) := by decide +kernel
theorem dX6_hour_77 : decode cX6_hour 77 = .ok (.aload_n 0, 1) := by decide +kernel
theorem dX6_hour_78 : decode cX6_hour 78 = .ok (.dup, 1) := by decide +kernel
theorem dX6_hour_79 : decode cX6_hour 79 = .ok (.getfield 120, 3) := by decide +kernel
theorem dX6_hour_82 : decode cX6_hour 82 = .ok (.iconst 1, 1) := by decide +kernel
theorem dX6_hour_83 : decode cX6_hour 83 = .ok (.iadd, 1) := by decide +kernel
theorem dX6_hour_84 : decode cX6_hour 84 = .ok (.putfield 120, 3) := by decide +kernel
theorem dX6_hour_87 : decode cX6_hour 87 = .ok (.iconst 0, 1) := by decide +kernel
theorem dX6_hour_88 : decode cX6_hour 88 = .ok (.istore_n 2, 1) := by decide +kernel
theorem dX6_hour_89 : decode cX6_hour 89 = .ok (.iload_n 2, 1) := by decide +kernel
theorem dX6_hour_90 : decode cX6_hour 90 = .ok (.aload_n 0, 1) := by decide +kernel
theorem dX6_hour_91 : decode cX6_hour 91 = .ok (.getfield 67, 3) := by decide +kernel
theorem dX6_hour_94 : decode cX6_hour 94 = .ok (.if_icmp .ge 69, 3) := by decide +kernel
theorem dX6_hour_97 : decode cX6_hour 97 = .ok (.aload_n 0, 1) := by decide +kernel
theorem dX6_hour_98 : decode cX6_hour 98 = .ok (.getfield 120, 3) := by decide +kernel
theorem dX6_hour_101 : decode cX6_hour 101 = .ok (.bipush 24, 2) := by decide +kernel
theorem dX6_hour_103 : decode cX6_hour 103 = .ok (.irem, 1) := by decide +kernel
theorem dX6_hour_104 : decode cX6_hour 104 = .ok (.ifCond .ne 59, 3) := by decide +kernel
theorem dX6_hour_107 : decode cX6_hour 107 = .ok (.aload_n 0, 1) := by decide +kernel
theorem dX6_hour_108 : decode cX6_hour 108 = .ok (.getfield 17, 3) := by decide +kernel
theorem dX6_hour_111 : decode cX6_hour 111 = .ok (.iconst 3, 1) := by decide +kernel
theorem dX6_hour_112 : decode cX6_hour 112 = .ok (.iload_n 2, 1) := by decide +kernel
theorem dX6_hour_113 : decode cX6_hour 113 = .ok (.imul, 1) := by decide +kernel
theorem dX6_hour_114 : decode cX6_hour 114 = .ok (.aload_n 0, 1) := by decide +kernel
theorem dX6_hour_115 : decode cX6_hour 115 = .ok (.getfield 17, 3) := by decide +kernel
theorem dX6_hour_118 : decode cX6_hour 118 = .ok (.iconst 3, 1) := by decide +kernel
theorem dX6_hour_119 : decode cX6_hour 119 = .ok (.iload_n 2, 1) := by decide +kernel
theorem dX6_hour_120 : decode cX6_hour 120 = .ok (.imul, 1) := by decide +kernel
theorem dX6_hour_121 : decode cX6_hour 121 = .ok (.iaload, 1) := by decide +kernel
theorem dX6_hour_122 : decode cX6_hour 122 = .ok (.aload_n 0, 1) := by decide +kernel
theorem dX6_hour_123 : decode cX6_hour 123 = .ok (.getfield 20, 3) := by decide +kernel
theorem dX6_hour_126 : decode cX6_hour 126 = .ok (.iload_n 2, 1) := by decide +kernel
theorem dX6_hour_127 : decode cX6_hour 127 = .ok (.iaload, 1) := by decide +kernel
theorem dX6_hour_128 : decode cX6_hour 128 = .ok (.iadd, 1) := by decide +kernel
theorem dX6_hour_129 : decode cX6_hour 129 = .ok (.sipush 999, 3) := by decide +kernel
theorem dX6_hour_132 : decode cX6_hour 132 = .ok (.if_icmp .ge 21, 3) := by decide +kernel
theorem dX6_hour_135 : decode cX6_hour 135 = .ok (.aload_n 0, 1) := by decide +kernel
theorem dX6_hour_136 : decode cX6_hour 136 = .ok (.getfield 17, 3) := by decide +kernel
theorem dX6_hour_139 : decode cX6_hour 139 = .ok (.iconst 3, 1) := by decide +kernel
theorem dX6_hour_140 : decode cX6_hour 140 = .ok (.iload_n 2, 1) := by decide +kernel
theorem dX6_hour_141 : decode cX6_hour 141 = .ok (.imul, 1) := by decide +kernel
theorem dX6_hour_142 : decode cX6_hour 142 = .ok (.iaload, 1) := by decide +kernel
theorem dX6_hour_143 : decode cX6_hour 143 = .ok (.aload_n 0, 1) := by decide +kernel
theorem dX6_hour_144 : decode cX6_hour 144 = .ok (.getfield 20, 3) := by decide +kernel
theorem dX6_hour_147 : decode cX6_hour 147 = .ok (.iload_n 2, 1) := by decide +kernel
theorem dX6_hour_148 : decode cX6_hour 148 = .ok (.iaload, 1) := by decide +kernel
theorem dX6_hour_149 : decode cX6_hour 149 = .ok (.iadd, 1) := by decide +kernel
theorem dX6_hour_150 : decode cX6_hour 150 = .ok (.goto 6, 3) := by decide +kernel
theorem dX6_hour_153 : decode cX6_hour 153 = .ok (.sipush 999, 3) := by decide +kernel
theorem dX6_hour_156 : decode cX6_hour 156 = .ok (.iastore, 1) := by decide +kernel
theorem dX6_hour_157 : decode cX6_hour 157 = .ok (.iinc 2 1, 3) := by decide +kernel
theorem dX6_hour_160 : decode cX6_hour 160 = .ok (.goto (-71), 3) := by decide +kernel
theorem dX6_hour_163 : decode cX6_hour 163 = .ok (.aload_n 0, 1) := by decide +kernel
theorem dX6_hour_164 : decode cX6_hour 164 = .ok (.dup, 1) := by decide +kernel
theorem dX6_hour_165 : decode cX6_hour 165 = .ok (.getfield 117, 3) := by decide +kernel
theorem dX6_hour_168 : decode cX6_hour 168 = .ok (.iload_n 1, 1) := by decide +kernel
theorem dX6_hour_169 : decode cX6_hour 169 = .ok (.iadd, 1) := by decide +kernel
theorem dX6_hour_170 : decode cX6_hour 170 = .ok (.putfield 117, 3) := by decide +kernel
theorem dX6_hour_173 : decode cX6_hour 173 = .ok (.iload_n 1, 1) := by decide +kernel
theorem dX6_hour_174 : decode cX6_hour 174 = .ok (.ireturn, 1) := by decide +kernel
theorem dX6_pass_0 : decode cX6_pass 0 = .ok (.aload_n 0, 1) := by decide +kernel
theorem dX6_pass_1 : decode cX6_pass 1 = .ok (.iload_n 1, 1) := by decide +kernel
theorem dX6_pass_2 : decode cX6_pass 2 = .ok (.iconst 1, 1) := by decide +kernel
theorem dX6_pass_3 : decode cX6_pass 3 = .ok (.bipush 48, 2) := by decide +kernel
theorem dX6_pass_5 : decode cX6_pass 5 = .ok (.invokestatic 63, 3) := by decide +kernel
theorem dX6_pass_8 : decode cX6_pass 8 = .ok (.ifCond .eq 7, 3) := by decide +kernel
theorem dX6_pass_11 : decode cX6_pass 11 = .ok (.iconst 0, 1) := by decide +kernel
theorem dX6_pass_12 : decode cX6_pass 12 = .ok (.goto 4, 3) := by decide +kernel
theorem dX6_pass_15 : decode cX6_pass 15 = .ok (.iconst 1, 1) := by decide +kernel
theorem dX6_pass_16 : decode cX6_pass 16 = .ok (.invokevirtual 70, 3) := by decide +kernel
theorem dX6_pass_19 : decode cX6_pass 19 = .ok (.ifCond .eq 5, 3) := by decide +kernel
theorem dX6_pass_22 : decode cX6_pass 22 = .ok (.iconst 0, 1) := by decide +kernel
theorem dX6_pass_23 : decode cX6_pass 23 = .ok (.ireturn, 1) := by decide +kernel
theorem dX6_pass_24 : decode cX6_pass 24 = .ok (.iconst 0, 1) := by decide +kernel
theorem dX6_pass_25 : decode cX6_pass 25 = .ok (.istore_n 2, 1) := by decide +kernel
theorem dX6_pass_26 : decode cX6_pass 26 = .ok (.iconst 0, 1) := by decide +kernel
theorem dX6_pass_27 : decode cX6_pass 27 = .ok (.istore_n 3, 1) := by decide +kernel
theorem dX6_pass_28 : decode cX6_pass 28 = .ok (.iload_n 3, 1) := by decide +kernel
theorem dX6_pass_29 : decode cX6_pass 29 = .ok (.iload_n 1, 1) := by decide +kernel
theorem dX6_pass_30 : decode cX6_pass 30 = .ok (.if_icmp .ge 16, 3) := by decide +kernel
theorem dX6_pass_33 : decode cX6_pass 33 = .ok (.iload_n 2, 1) := by decide +kernel
theorem dX6_pass_34 : decode cX6_pass 34 = .ok (.aload_n 0, 1) := by decide +kernel
theorem dX6_pass_35 : decode cX6_pass 35 = .ok (.invokevirtual 136, 3) := by decide +kernel
theorem dX6_pass_38 : decode cX6_pass 38 = .ok (.iadd, 1) := by decide +kernel
theorem dX6_pass_39 : decode cX6_pass 39 = .ok (.istore_n 2, 1) := by decide +kernel
theorem dX6_pass_40 : decode cX6_pass 40 = .ok (.iinc 3 1, 3) := by decide +kernel
theorem dX6_pass_43 : decode cX6_pass 43 = .ok (.goto (-15), 3) := by decide +kernel
theorem dX6_pass_46 : decode cX6_pass 46 = .ok (.iload_n 2, 1) := by decide +kernel
theorem dX6_pass_47 : decode cX6_pass 47 = .ok (.ireturn, 1) := by decide +kernel
theorem dX6_time_0 : decode cX6_time 0 = .ok (.aload_n 0, 1) := by decide +kernel
theorem dX6_time_1 : decode cX6_time 1 = .ok (.aload_n 0, 1) := by decide +kernel
theorem dX6_time_2 : decode cX6_time 2 = .ok (.getfield 120, 3) := by decide +kernel
theorem dX6_time_5 : decode cX6_time 5 = .ok (.invokevirtual 139, 3) := by decide +kernel
theorem dX6_time_8 : decode cX6_time 8 = .ok (.ireturn, 1) := by decide +kernel
theorem dX6_phase_0 : decode cX6_phase 0 = .ok (.aload_n 0, 1) := by decide +kernel
theorem dX6_phase_1 : decode cX6_phase 1 = .ok (.aload_n 0, 1) := by decide +kernel
theorem dX6_phase_2 : decode cX6_phase 2 = .ok (.iload_n 1, 1) := by decide +kernel
theorem dX6_phase_3 : decode cX6_phase 3 = .ok (.invokevirtual 94, 3) := by decide +kernel
theorem dX6_phase_6 : decode cX6_phase 6 = .ok (.ifCond .eq 7, 3) := by decide +kernel
theorem dX6_phase_9 : decode cX6_phase 9 = .ok (.iconst 1, 1) := by decide +kernel
theorem dX6_phase_10 : decode cX6_phase 10 = .ok (.goto 4, 3) := by decide +kernel
theorem dX6_phase_13 : decode cX6_phase 13 = .ok (.iconst 0, 1) := by decide +kernel
theorem dX6_phase_14 : decode cX6_phase 14 = .ok (.invokevirtual 70, 3) := by decide +kernel
theorem dX6_phase_17 : decode cX6_phase 17 = .ok (.ifCond .eq 8, 3) := by decide +kernel
theorem dX6_phase_20 : decode cX6_phase 20 = .ok (.bipush 97, 2) := by decide +kernel
theorem dX6_phase_22 : decode cX6_phase 22 = .ok (.goto 49, 3) := by decide +kernel
theorem dX6_phase_25 : decode cX6_phase 25 = .ok (.aload_n 0, 1) := by decide +kernel
theorem dX6_phase_26 : decode cX6_phase 26 = .ok (.getfield 32, 3) := by decide +kernel
theorem dX6_phase_29 : decode cX6_phase 29 = .ok (.iload_n 1, 1) := by decide +kernel
theorem dX6_phase_30 : decode cX6_phase 30 = .ok (.iaload, 1) := by decide +kernel
theorem dX6_phase_31 : decode cX6_phase 31 = .ok (.ifCond .ne 8, 3) := by decide +kernel
theorem dX6_phase_34 : decode cX6_phase 34 = .ok (.bipush 45, 2) := by decide +kernel
theorem dX6_phase_36 : decode cX6_phase 36 = .ok (.goto 35, 3) := by decide +kernel
theorem dX6_phase_39 : decode cX6_phase 39 = .ok (.aload_n 0, 1) := by decide +kernel
theorem dX6_phase_40 : decode cX6_phase 40 = .ok (.getfield 32, 3) := by decide +kernel
theorem dX6_phase_43 : decode cX6_phase 43 = .ok (.iload_n 1, 1) := by decide +kernel
theorem dX6_phase_44 : decode cX6_phase 44 = .ok (.iaload, 1) := by decide +kernel
theorem dX6_phase_45 : decode cX6_phase 45 = .ok (.iconst 1, 1) := by decide +kernel
theorem dX6_phase_46 : decode cX6_phase 46 = .ok (.if_icmp .ne 8, 3) := by decide +kernel
theorem dX6_phase_49 : decode cX6_phase 49 = .ok (.bipush 99, 2) := by decide +kernel
theorem dX6_phase_51 : decode cX6_phase 51 = .ok (.goto 20, 3) := by decide +kernel
theorem dX6_phase_54 : decode cX6_phase 54 = .ok (.aload_n 0, 1) := by decide +kernel
theorem dX6_phase_55 : decode cX6_phase 55 = .ok (.getfield 32, 3) := by decide +kernel
theorem dX6_phase_58 : decode cX6_phase 58 = .ok (.iload_n 1, 1) := by decide +kernel
theorem dX6_phase_59 : decode cX6_phase 59 = .ok (.iaload, 1) := by decide +kernel
theorem dX6_phase_60 : decode cX6_phase 60 = .ok (.iconst 2, 1) := by decide +kernel
theorem dX6_phase_61 : decode cX6_phase 61 = .ok (.if_icmp .ne 8, 3) := by decide +kernel
theorem dX6_phase_64 : decode cX6_phase 64 = .ok (.bipush 102, 2) := by decide +kernel
theorem dX6_phase_66 : decode cX6_phase 66 = .ok (.goto 5, 3) := by decide +kernel
theorem dX6_phase_69 : decode cX6_phase 69 = .ok (.bipush 100, 2) := by decide +kernel
theorem dX6_phase_71 : decode cX6_phase 71 = .ok (.ireturn, 1) := by decide +kernel
theorem dX6_hasNoMove_0 : decode cX6_hasNoMove 0 = .ok (.aload_n 0, 1) := by decide +kernel
theorem dX6_hasNoMove_1 : decode cX6_hasNoMove 1 = .ok (.aload_n 0, 1) := by decide +kernel
theorem dX6_hasNoMove_2 : decode cX6_hasNoMove 2 = .ok (.iload_n 1, 1) := by decide +kernel
theorem dX6_hasNoMove_3 : decode cX6_hasNoMove 3 = .ok (.invokevirtual 94, 3) := by decide +kernel
theorem dX6_hasNoMove_6 : decode cX6_hasNoMove 6 = .ok (.ifCond .eq 7, 3) := by decide +kernel
theorem dX6_hasNoMove_9 : decode cX6_hasNoMove 9 = .ok (.iconst 1, 1) := by decide +kernel
theorem dX6_hasNoMove_10 : decode cX6_hasNoMove 10 = .ok (.goto 17, 3) := by decide +kernel
theorem dX6_hasNoMove_13 : decode cX6_hasNoMove 13 = .ok (.aload_n 0, 1) := by decide +kernel
theorem dX6_hasNoMove_14 : decode cX6_hasNoMove 14 = .ok (.getfield 32, 3) := by decide +kernel
theorem dX6_hasNoMove_17 : decode cX6_hasNoMove 17 = .ok (.iload_n 1, 1) := by decide +kernel
theorem dX6_hasNoMove_18 : decode cX6_hasNoMove 18 = .ok (.iaload, 1) := by decide +kernel
theorem dX6_hasNoMove_19 : decode cX6_hasNoMove 19 = .ok (.ifCond .ne 7, 3) := by decide +kernel
theorem dX6_hasNoMove_22 : decode cX6_hasNoMove 22 = .ok (.iconst 2, 1) := by decide +kernel
theorem dX6_hasNoMove_23 : decode cX6_hasNoMove 23 = .ok (.goto 4, 3) := by decide +kernel
theorem dX6_hasNoMove_26 : decode cX6_hasNoMove 26 = .ok (.iconst 0, 1) := by decide +kernel
theorem dX6_hasNoMove_27 : decode cX6_hasNoMove 27 = .ok (.invokevirtual 70, 3) := by decide +kernel
theorem dX6_hasNoMove_30 : decode cX6_hasNoMove 30 = .ok (.ireturn, 1) := by decide +kernel
theorem dX6_targetOf_0 : decode cX6_targetOf 0 = .ok (.aload_n 0, 1) := by decide +kernel
theorem dX6_targetOf_1 : decode cX6_targetOf 1 = .ok (.iload_n 1, 1) := by decide +kernel
theorem dX6_targetOf_2 : decode cX6_targetOf 2 = .ok (.invokevirtual 143, 3) := by decide +kernel
theorem dX6_targetOf_5 : decode cX6_targetOf 5 = .ok (.ifCond .eq 7, 3) := by decide +kernel
theorem dX6_targetOf_8 : decode cX6_targetOf 8 = .ok (.iconst 0, 1) := by decide +kernel
theorem dX6_targetOf_9 : decode cX6_targetOf 9 = .ok (.goto 9, 3) := by decide +kernel
theorem dX6_targetOf_12 : decode cX6_targetOf 12 = .ok (.aload_n 0, 1) := by decide +kernel
theorem dX6_targetOf_13 : decode cX6_targetOf 13 = .ok (.getfield 38, 3) := by decide +kernel
theorem dX6_targetOf_16 : decode cX6_targetOf 16 = .ok (.iload_n 1, 1) := by decide +kernel
theorem dX6_targetOf_17 : decode cX6_targetOf 17 = .ok (.iaload, 1) := by decide +kernel
theorem dX6_targetOf_18 : decode cX6_targetOf 18 = .ok (.ireturn, 1) := by decide +kernel
theorem dX6_goneOn_0 : decode cX6_goneOn 0 = .ok (.aload_n 0, 1) := by decide +kernel
theorem dX6_goneOn_1 : decode cX6_goneOn 1 = .ok (.iload_n 1, 1) := by decide +kernel
theorem dX6_goneOn_2 : decode cX6_goneOn 2 = .ok (.invokevirtual 143, 3) := by decide +kernel
theorem dX6_goneOn_5 : decode cX6_goneOn 5 = .ok (.ifCond .eq 5, 3) := by decide +kernel
theorem dX6_goneOn_8 : decode cX6_goneOn 8 = .ok (.iconst 0, 1) := by decide +kernel
theorem dX6_goneOn_9 : decode cX6_goneOn 9 = .ok (.ireturn, 1) := by decide +kernel
theorem dX6_goneOn_10 : decode cX6_goneOn 10 = .ok (.aload_n 0, 1) := by decide +kernel
theorem dX6_goneOn_11 : decode cX6_goneOn 11 = .ok (.getfield 32, 3) := by decide +kernel
theorem dX6_goneOn_14 : decode cX6_goneOn 14 = .ok (.iload_n 1, 1) := by decide +kernel
theorem dX6_goneOn_15 : decode cX6_goneOn 15 = .ok (.iaload, 1) := by decide +kernel
theorem dX6_goneOn_16 : decode cX6_goneOn 16 = .ok (.iconst 3, 1) := by decide +kernel
theorem dX6_goneOn_17 : decode cX6_goneOn 17 = .ok (.if_icmp .ne 10, 3) := by decide +kernel
theorem dX6_goneOn_20 : decode cX6_goneOn 20 = .ok (.aload_n 0, 1) := by decide +kernel
theorem dX6_goneOn_21 : decode cX6_goneOn 21 = .ok (.getfield 41, 3) := by decide +kernel
theorem dX6_goneOn_24 : decode cX6_goneOn 24 = .ok (.iload_n 1, 1) := by decide +kernel
theorem dX6_goneOn_25 : decode cX6_goneOn 25 = .ok (.iaload, 1) := by decide +kernel
theorem dX6_goneOn_26 : decode cX6_goneOn 26 = .ok (.ireturn, 1) := by decide +kernel
theorem dX6_goneOn_27 : decode cX6_goneOn 27 = .ok (.aload_n 0, 1) := by decide +kernel
theorem dX6_goneOn_28 : decode cX6_goneOn 28 = .ok (.getfield 32, 3) := by decide +kernel
theorem dX6_goneOn_31 : decode cX6_goneOn 31 = .ok (.iload_n 1, 1) := by decide +kernel
theorem dX6_goneOn_32 : decode cX6_goneOn 32 = .ok (.iaload, 1) := by decide +kernel
theorem dX6_goneOn_33 : decode cX6_goneOn 33 = .ok (.iconst 1, 1) := by decide +kernel
theorem dX6_goneOn_34 : decode cX6_goneOn 34 = .ok (.if_icmp .ne 12, 3) := by decide +kernel
theorem dX6_goneOn_37 : decode cX6_goneOn 37 = .ok (.aload_n 0, 1) := by decide +kernel
theorem dX6_goneOn_38 : decode cX6_goneOn 38 = .ok (.getfield 41, 3) := by decide +kernel
theorem dX6_goneOn_41 : decode cX6_goneOn 41 = .ok (.iload_n 1, 1) := by decide +kernel
theorem dX6_goneOn_42 : decode cX6_goneOn 42 = .ok (.iaload, 1) := by decide +kernel
theorem dX6_goneOn_43 : decode cX6_goneOn 43 = .ok (.goto 4, 3) := by decide +kernel
theorem dX6_goneOn_46 : decode cX6_goneOn 46 = .ok (.iconst 0, 1) := by decide +kernel
theorem dX6_goneOn_47 : decode cX6_goneOn 47 = .ok (.istore_n 2, 1) := by decide +kernel
theorem dX6_goneOn_48 : decode cX6_goneOn 48 = .ok (.aload_n 0, 1) := by decide +kernel
theorem dX6_goneOn_49 : decode cX6_goneOn 49 = .ok (.iload_n 1, 1) := by decide +kernel
theorem dX6_goneOn_50 : decode cX6_goneOn 50 = .ok (.aload_n 0, 1) := by decide +kernel
theorem dX6_goneOn_51 : decode cX6_goneOn 51 = .ok (.getfield 120, 3) := by decide +kernel
theorem dX6_goneOn_54 : decode cX6_goneOn 54 = .ok (.iload_n 2, 1) := by decide +kernel
theorem dX6_goneOn_55 : decode cX6_goneOn 55 = .ok (.iadd, 1) := by decide +kernel
theorem dX6_goneOn_56 : decode cX6_goneOn 56 = .ok (.bipush 24, 2) := by decide +kernel
theorem dX6_goneOn_58 : decode cX6_goneOn 58 = .ok (.irem, 1) := by decide +kernel
theorem dX6_goneOn_59 : decode cX6_goneOn 59 = .ok (.invokevirtual 123, 3) := by decide +kernel
theorem dX6_goneOn_62 : decode cX6_goneOn 62 = .ok (.ifCond .ne 9, 3) := by decide +kernel
theorem dX6_goneOn_65 : decode cX6_goneOn 65 = .ok (.iinc 2 1, 3) := by decide +kernel
theorem dX6_goneOn_68 : decode cX6_goneOn 68 = .ok (.goto (-20), 3) := by decide +kernel
theorem dX6_goneOn_71 : decode cX6_goneOn 71 = .ok (.iload_n 2, 1) := by decide +kernel
theorem dX6_goneOn_72 : decode cX6_goneOn 72 = .ok (.iconst 1, 1) := by decide +kernel
theorem dX6_goneOn_73 : decode cX6_goneOn 73 = .ok (.iadd, 1) := by decide +kernel
theorem dX6_goneOn_74 : decode cX6_goneOn 74 = .ok (.iconst 2, 1) := by decide +kernel
theorem dX6_goneOn_75 : decode cX6_goneOn 75 = .ok (.iadd, 1) := by decide +kernel
theorem dX6_goneOn_76 : decode cX6_goneOn 76 = .ok (.ireturn, 1) := by decide +kernel
theorem dX6_hoursLeft_0 : decode cX6_hoursLeft 0 = .ok (.aload_n 0, 1) := by decide +kernel
theorem dX6_hoursLeft_1 : decode cX6_hoursLeft 1 = .ok (.iload_n 1, 1) := by decide +kernel
theorem dX6_hoursLeft_2 : decode cX6_hoursLeft 2 = .ok (.invokevirtual 146, 3) := by decide +kernel
theorem dX6_hoursLeft_5 : decode cX6_hoursLeft 5 = .ok (.ireturn, 1) := by decide +kernel
theorem dX6_hoursByPassing_0 : decode cX6_hoursByPassing 0 = .ok (.aload_n 0, 1) := by decide +kernel
theorem dX6_hoursByPassing_1 : decode cX6_hoursByPassing 1 = .ok (.iload_n 1, 1) := by decide +kernel
theorem dX6_hoursByPassing_2 : decode cX6_hoursByPassing 2 = .ok (.invokevirtual 146, 3) := by decide +kernel
theorem dX6_hoursByPassing_5 : decode cX6_hoursByPassing 5 = .ok (.ireturn, 1) := by decide +kernel
theorem dX6_moves_0 : decode cX6_moves 0 = .ok (.aload_n 0, 1) := by decide +kernel
theorem dX6_moves_1 : decode cX6_moves 1 = .ok (.aload_n 0, 1) := by decide +kernel
theorem dX6_moves_2 : decode cX6_moves 2 = .ok (.invokevirtual 113, 3) := by decide +kernel
theorem dX6_moves_5 : decode cX6_moves 5 = .ok (.invokevirtual 139, 3) := by decide +kernel
theorem dX6_moves_8 : decode cX6_moves 8 = .ok (.ireturn, 1) := by decide +kernel
theorem dX6_shards_0 : decode cX6_shards 0 = .ok (.aload_n 0, 1) := by decide +kernel
theorem dX6_shards_1 : decode cX6_shards 1 = .ok (.aload_n 0, 1) := by decide +kernel
theorem dX6_shards_2 : decode cX6_shards 2 = .ok (.getfield 60, 3) := by decide +kernel
theorem dX6_shards_5 : decode cX6_shards 5 = .ok (.invokevirtual 139, 3) := by decide +kernel
theorem dX6_shards_8 : decode cX6_shards 8 = .ok (.ireturn, 1) := by decide +kernel
theorem dX6_tenants_0 : decode cX6_tenants 0 = .ok (.aload_n 0, 1) := by decide +kernel
theorem dX6_tenants_1 : decode cX6_tenants 1 = .ok (.aload_n 0, 1) := by decide +kernel
theorem dX6_tenants_2 : decode cX6_tenants 2 = .ok (.getfield 67, 3) := by decide +kernel
theorem dX6_tenants_5 : decode cX6_tenants 5 = .ok (.invokevirtual 139, 3) := by decide +kernel
theorem dX6_tenants_8 : decode cX6_tenants 8 = .ok (.ireturn, 1) := by decide +kernel
theorem dX6_servedBy_0 : decode cX6_servedBy 0 = .ok (.aload_n 0, 1) := by decide +kernel
theorem dX6_servedBy_1 : decode cX6_servedBy 1 = .ok (.aload_n 0, 1) := by decide +kernel
theorem dX6_servedBy_2 : decode cX6_servedBy 2 = .ok (.iload_n 1, 1) := by decide +kernel
theorem dX6_servedBy_3 : decode cX6_servedBy 3 = .ok (.invokevirtual 94, 3) := by decide +kernel
theorem dX6_servedBy_6 : decode cX6_servedBy 6 = .ok (.ifCond .eq 7, 3) := by decide +kernel
theorem dX6_servedBy_9 : decode cX6_servedBy 9 = .ok (.iconst 1, 1) := by decide +kernel
theorem dX6_servedBy_10 : decode cX6_servedBy 10 = .ok (.goto 4, 3) := by decide +kernel
theorem dX6_servedBy_13 : decode cX6_servedBy 13 = .ok (.iconst 0, 1) := by decide +kernel
theorem dX6_servedBy_14 : decode cX6_servedBy 14 = .ok (.invokevirtual 70, 3) := by decide +kernel
theorem dX6_servedBy_17 : decode cX6_servedBy 17 = .ok (.ifCond .eq 7, 3) := by decide +kernel
theorem dX6_servedBy_20 : decode cX6_servedBy 20 = .ok (.iconst 0, 1) := by decide +kernel
theorem dX6_servedBy_21 : decode cX6_servedBy 21 = .ok (.goto 9, 3) := by decide +kernel
theorem dX6_servedBy_24 : decode cX6_servedBy 24 = .ok (.aload_n 0, 1) := by decide +kernel
theorem dX6_servedBy_25 : decode cX6_servedBy 25 = .ok (.getfield 29, 3) := by decide +kernel
theorem dX6_servedBy_28 : decode cX6_servedBy 28 = .ok (.iload_n 1, 1) := by decide +kernel
theorem dX6_servedBy_29 : decode cX6_servedBy 29 = .ok (.iaload, 1) := by decide +kernel
theorem dX6_servedBy_30 : decode cX6_servedBy 30 = .ok (.ireturn, 1) := by decide +kernel
theorem dX6_sizeOf_0 : decode cX6_sizeOf 0 = .ok (.aload_n 0, 1) := by decide +kernel
theorem dX6_sizeOf_1 : decode cX6_sizeOf 1 = .ok (.aload_n 0, 1) := by decide +kernel
theorem dX6_sizeOf_2 : decode cX6_sizeOf 2 = .ok (.iload_n 1, 1) := by decide +kernel
theorem dX6_sizeOf_3 : decode cX6_sizeOf 3 = .ok (.invokevirtual 94, 3) := by decide +kernel
theorem dX6_sizeOf_6 : decode cX6_sizeOf 6 = .ok (.ifCond .ne 10, 3) := by decide +kernel
theorem dX6_sizeOf_9 : decode cX6_sizeOf 9 = .ok (.iload_n 2, 1) := by decide +kernel
theorem dX6_sizeOf_10 : decode cX6_sizeOf 10 = .ok (.invokestatic 77, 3) := by decide +kernel
theorem dX6_sizeOf_13 : decode cX6_sizeOf 13 = .ok (.ifCond .ne 7, 3) := by decide +kernel
theorem dX6_sizeOf_16 : decode cX6_sizeOf 16 = .ok (.iconst 1, 1) := by decide +kernel
theorem dX6_sizeOf_17 : decode cX6_sizeOf 17 = .ok (.goto 4, 3) := by decide +kernel
theorem dX6_sizeOf_20 : decode cX6_sizeOf 20 = .ok (.iconst 0, 1) := by decide +kernel
theorem dX6_sizeOf_21 : decode cX6_sizeOf 21 = .ok (.invokevirtual 70, 3) := by decide +kernel
theorem dX6_sizeOf_24 : decode cX6_sizeOf 24 = .ok (.ifCond .eq 7, 3) := by decide +kernel
theorem dX6_sizeOf_27 : decode cX6_sizeOf 27 = .ok (.iconst 0, 1) := by decide +kernel
theorem dX6_sizeOf_28 : decode cX6_sizeOf 28 = .ok (.goto 13, 3) := by decide +kernel
theorem dX6_sizeOf_31 : decode cX6_sizeOf 31 = .ok (.aload_n 0, 1) := by decide +kernel
theorem dX6_sizeOf_32 : decode cX6_sizeOf 32 = .ok (.getfield 17, 3) := by decide +kernel
theorem dX6_sizeOf_35 : decode cX6_sizeOf 35 = .ok (.iconst 3, 1) := by decide +kernel
theorem dX6_sizeOf_36 : decode cX6_sizeOf 36 = .ok (.iload_n 1, 1) := by decide +kernel
theorem dX6_sizeOf_37 : decode cX6_sizeOf 37 = .ok (.imul, 1) := by decide +kernel
theorem dX6_sizeOf_38 : decode cX6_sizeOf 38 = .ok (.iload_n 2, 1) := by decide +kernel
theorem dX6_sizeOf_39 : decode cX6_sizeOf 39 = .ok (.iadd, 1) := by decide +kernel
theorem dX6_sizeOf_40 : decode cX6_sizeOf 40 = .ok (.iaload, 1) := by decide +kernel
theorem dX6_sizeOf_41 : decode cX6_sizeOf 41 = .ok (.ireturn, 1) := by decide +kernel
theorem dX6_cannotAsk_0 : decode cX6_cannotAsk 0 = .ok (.aload_n 0, 1) := by decide +kernel
theorem dX6_cannotAsk_1 : decode cX6_cannotAsk 1 = .ok (.aload_n 0, 1) := by decide +kernel
theorem dX6_cannotAsk_2 : decode cX6_cannotAsk 2 = .ok (.iload_n 1, 1) := by decide +kernel
theorem dX6_cannotAsk_3 : decode cX6_cannotAsk 3 = .ok (.invokevirtual 74, 3) := by decide +kernel
theorem dX6_cannotAsk_6 : decode cX6_cannotAsk 6 = .ok (.ifCond .ne 10, 3) := by decide +kernel
theorem dX6_cannotAsk_9 : decode cX6_cannotAsk 9 = .ok (.iload_n 2, 1) := by decide +kernel
theorem dX6_cannotAsk_10 : decode cX6_cannotAsk 10 = .ok (.invokestatic 77, 3) := by decide +kernel
theorem dX6_cannotAsk_13 : decode cX6_cannotAsk 13 = .ok (.ifCond .ne 7, 3) := by decide +kernel
theorem dX6_cannotAsk_16 : decode cX6_cannotAsk 16 = .ok (.iconst 1, 1) := by decide +kernel
theorem dX6_cannotAsk_17 : decode cX6_cannotAsk 17 = .ok (.goto 4, 3) := by decide +kernel
theorem dX6_cannotAsk_20 : decode cX6_cannotAsk 20 = .ok (.iconst 0, 1) := by decide +kernel
theorem dX6_cannotAsk_21 : decode cX6_cannotAsk 21 = .ok (.invokevirtual 70, 3) := by decide +kernel
theorem dX6_cannotAsk_24 : decode cX6_cannotAsk 24 = .ok (.ireturn, 1) := by decide +kernel
theorem dX6_used_0 : decode cX6_used 0 = .ok (.aload_n 0, 1) := by decide +kernel
theorem dX6_used_1 : decode cX6_used 1 = .ok (.iload_n 1, 1) := by decide +kernel
theorem dX6_used_2 : decode cX6_used 2 = .ok (.iload_n 2, 1) := by decide +kernel
theorem dX6_used_3 : decode cX6_used 3 = .ok (.invokevirtual 149, 3) := by decide +kernel
theorem dX6_used_6 : decode cX6_used 6 = .ok (.ifCond .eq 7, 3) := by decide +kernel
theorem dX6_used_9 : decode cX6_used 9 = .ok (.iconst 0, 1) := by decide +kernel
theorem dX6_used_10 : decode cX6_used 10 = .ok (.goto 9, 3) := by decide +kernel
theorem dX6_used_13 : decode cX6_used 13 = .ok (.aload_n 0, 1) := by decide +kernel
theorem dX6_used_14 : decode cX6_used 14 = .ok (.iload_n 1, 1) := by decide +kernel
theorem dX6_used_15 : decode cX6_used 15 = .ok (.iload_n 2, 1) := by decide +kernel
theorem dX6_used_16 : decode cX6_used 16 = .ok (.invokevirtual 87, 3) := by decide +kernel
theorem dX6_used_19 : decode cX6_used 19 = .ok (.ireturn, 1) := by decide +kernel
theorem dX6_usedByLooking_0 : decode cX6_usedByLooking 0 = .ok (.aload_n 0, 1) := by decide +kernel
theorem dX6_usedByLooking_1 : decode cX6_usedByLooking 1 = .ok (.iload_n 1, 1) := by decide +kernel
theorem dX6_usedByLooking_2 : decode cX6_usedByLooking 2 = .ok (.iload_n 2, 1) := by decide +kernel
theorem dX6_usedByLooking_3 : decode cX6_usedByLooking 3 = .ok (.invokevirtual 149, 3) := by decide +kernel
theorem dX6_usedByLooking_6 : decode cX6_usedByLooking 6 = .ok (.ifCond .eq 7, 3) := by decide +kernel
theorem dX6_usedByLooking_9 : decode cX6_usedByLooking 9 = .ok (.iconst 0, 1) := by decide +kernel
theorem dX6_usedByLooking_10 : decode cX6_usedByLooking 10 = .ok (.goto 9, 3) := by decide +kernel
theorem dX6_usedByLooking_13 : decode cX6_usedByLooking 13 = .ok (.aload_n 0, 1) := by decide +kernel
theorem dX6_usedByLooking_14 : decode cX6_usedByLooking 14 = .ok (.iload_n 1, 1) := by decide +kernel
theorem dX6_usedByLooking_15 : decode cX6_usedByLooking 15 = .ok (.iload_n 2, 1) := by decide +kernel
theorem dX6_usedByLooking_16 : decode cX6_usedByLooking 16 = .ok (.invokevirtual 87, 3) := by decide +kernel
theorem dX6_usedByLooking_19 : decode cX6_usedByLooking 19 = .ok (.ireturn, 1) := by decide +kernel
theorem dX6_isOver_0 : decode cX6_isOver 0 = .ok (.aload_n 0, 1) := by decide +kernel
theorem dX6_isOver_1 : decode cX6_isOver 1 = .ok (.aload_n 0, 1) := by decide +kernel
theorem dX6_isOver_2 : decode cX6_isOver 2 = .ok (.iload_n 1, 1) := by decide +kernel
theorem dX6_isOver_3 : decode cX6_isOver 3 = .ok (.invokevirtual 74, 3) := by decide +kernel
theorem dX6_isOver_6 : decode cX6_isOver 6 = .ok (.ifCond .eq 7, 3) := by decide +kernel
theorem dX6_isOver_9 : decode cX6_isOver 9 = .ok (.iconst 1, 1) := by decide +kernel
theorem dX6_isOver_10 : decode cX6_isOver 10 = .ok (.goto 4, 3) := by decide +kernel
theorem dX6_isOver_13 : decode cX6_isOver 13 = .ok (.iconst 0, 1) := by decide +kernel
theorem dX6_isOver_14 : decode cX6_isOver 14 = .ok (.invokevirtual 70, 3) := by decide +kernel
theorem dX6_isOver_17 : decode cX6_isOver 17 = .ok (.ifCond .ne 15, 3) := by decide +kernel
theorem dX6_isOver_20 : decode cX6_isOver 20 = .ok (.aload_n 0, 1) := by decide +kernel
theorem dX6_isOver_21 : decode cX6_isOver 21 = .ok (.iload_n 1, 1) := by decide +kernel
theorem dX6_isOver_22 : decode cX6_isOver 22 = .ok (.invokevirtual 130, 3) := by decide +kernel
theorem dX6_isOver_25 : decode cX6_isOver 25 = .ok (.ifCond .eq 7, 3) := by decide +kernel
theorem dX6_isOver_28 : decode cX6_isOver 28 = .ok (.iconst 1, 1) := by decide +kernel
theorem dX6_isOver_29 : decode cX6_isOver 29 = .ok (.goto 4, 3) := by decide +kernel
theorem dX6_isOver_32 : decode cX6_isOver 32 = .ok (.iconst 0, 1) := by decide +kernel
theorem dX6_isOver_33 : decode cX6_isOver 33 = .ok (.ireturn, 1) := by decide +kernel
theorem dX6_served_0 : decode cX6_served 0 = .ok (.aload_n 0, 1) := by decide +kernel
theorem dX6_served_1 : decode cX6_served 1 = .ok (.aload_n 0, 1) := by decide +kernel
theorem dX6_served_2 : decode cX6_served 2 = .ok (.iload_n 1, 1) := by decide +kernel
theorem dX6_served_3 : decode cX6_served 3 = .ok (.invokevirtual 74, 3) := by decide +kernel
theorem dX6_served_6 : decode cX6_served 6 = .ok (.ifCond .eq 7, 3) := by decide +kernel
theorem dX6_served_9 : decode cX6_served 9 = .ok (.iconst 1, 1) := by decide +kernel
theorem dX6_served_10 : decode cX6_served 10 = .ok (.goto 4, 3) := by decide +kernel
theorem dX6_served_13 : decode cX6_served 13 = .ok (.iconst 0, 1) := by decide +kernel
theorem dX6_served_14 : decode cX6_served 14 = .ok (.invokevirtual 70, 3) := by decide +kernel
theorem dX6_served_17 : decode cX6_served 17 = .ok (.ifCond .eq 5, 3) := by decide +kernel
theorem dX6_served_20 : decode cX6_served 20 = .ok (.iconst 0, 1) := by decide +kernel
theorem dX6_served_21 : decode cX6_served 21 = .ok (.ireturn, 1) := by decide +kernel
theorem dX6_served_22 : decode cX6_served 22 = .ok (.iconst 0, 1) := by decide +kernel
theorem dX6_served_23 : decode cX6_served 23 = .ok (.istore_n 2, 1) := by decide +kernel
theorem dX6_served_24 : decode cX6_served 24 = .ok (.iconst 0, 1) := by decide +kernel
theorem dX6_served_25 : decode cX6_served 25 = .ok (.istore_n 3, 1) := by decide +kernel
theorem dX6_served_26 : decode cX6_served 26 = .ok (.iload_n 3, 1) := by decide +kernel
theorem dX6_served_27 : decode cX6_served 27 = .ok (.aload_n 0, 1) := by decide +kernel
theorem dX6_served_28 : decode cX6_served 28 = .ok (.getfield 67, 3) := by decide +kernel
theorem dX6_served_31 : decode cX6_served 31 = .ok (.if_icmp .ge 27, 3) := by decide +kernel
theorem dX6_served_34 : decode cX6_served 34 = .ok (.iload_n 2, 1) := by decide +kernel
theorem dX6_served_35 : decode cX6_served 35 = .ok (.aload_n 0, 1) := by decide +kernel
theorem dX6_served_36 : decode cX6_served 36 = .ok (.getfield 29, 3) := by decide +kernel
theorem dX6_served_39 : decode cX6_served 39 = .ok (.iload_n 3, 1) := by decide +kernel
theorem dX6_served_40 : decode cX6_served 40 = .ok (.iaload, 1) := by decide +kernel
theorem dX6_served_41 : decode cX6_served 41 = .ok (.iload_n 1, 1) := by decide +kernel
theorem dX6_served_42 : decode cX6_served 42 = .ok (.if_icmp .ne 7, 3) := by decide +kernel
theorem dX6_served_45 : decode cX6_served 45 = .ok (.iconst 1, 1) := by decide +kernel
theorem dX6_served_46 : decode cX6_served 46 = .ok (.goto 4, 3) := by decide +kernel
theorem dX6_served_49 : decode cX6_served 49 = .ok (.iconst 0, 1) := by decide +kernel
theorem dX6_served_50 : decode cX6_served 50 = .ok (.iadd, 1) := by decide +kernel
theorem dX6_served_51 : decode cX6_served 51 = .ok (.istore_n 2, 1) := by decide +kernel
theorem dX6_served_52 : decode cX6_served 52 = .ok (.iinc 3 1, 3) := by decide +kernel
theorem dX6_served_55 : decode cX6_served 55 = .ok (.goto (-29), 3) := by decide +kernel
theorem dX6_served_58 : decode cX6_served 58 = .ok (.iload_n 2, 1) := by decide +kernel
theorem dX6_served_59 : decode cX6_served 59 = .ok (.ireturn, 1) := by decide +kernel
theorem dX6_fits_0 : decode cX6_fits 0 = .ok (.iconst 0, 1) := by decide +kernel
theorem dX6_fits_1 : decode cX6_fits 1 = .ok (.istore_n 3, 1) := by decide +kernel
theorem dX6_fits_2 : decode cX6_fits 2 = .ok (.iconst 0, 1) := by decide +kernel
theorem dX6_fits_3 : decode cX6_fits 3 = .ok (.istore 4, 2) := by decide +kernel
theorem dX6_fits_5 : decode cX6_fits 5 = .ok (.iload 4, 2) := by decide +kernel
theorem dX6_fits_7 : decode cX6_fits 7 = .ok (.aload_n 0, 1) := by decide +kernel
theorem dX6_fits_8 : decode cX6_fits 8 = .ok (.getfield 67, 3) := by decide +kernel
theorem dX6_fits_11 : decode cX6_fits 11 = .ok (.if_icmp .ge 38, 3) := by decide +kernel
theorem dX6_fits_14 : decode cX6_fits 14 = .ok (.iload_n 3, 1) := by decide +kernel
theorem dX6_fits_15 : decode cX6_fits 15 = .ok (.aload_n 0, 1) := by decide +kernel
theorem dX6_fits_16 : decode cX6_fits 16 = .ok (.getfield 50, 3) := by decide +kernel
theorem dX6_fits_19 : decode cX6_fits 19 = .ok (.iload 4, 2) := by decide +kernel
theorem dX6_fits_21 : decode cX6_fits 21 = .ok (.iaload, 1) := by decide +kernel
theorem dX6_fits_22 : decode cX6_fits 22 = .ok (.iload_n 1, 1) := by decide +kernel
theorem dX6_fits_23 : decode cX6_fits 23 = .ok (.if_icmp .ne 17, 3) := by decide +kernel
theorem dX6_fits_26 : decode cX6_fits 26 = .ok (.aload_n 0, 1) := by decide +kernel
theorem dX6_fits_27 : decode cX6_fits 27 = .ok (.getfield 17, 3) := by decide +kernel
theorem dX6_fits_30 : decode cX6_fits 30 = .ok (.iconst 3, 1) := by decide +kernel
theorem dX6_fits_31 : decode cX6_fits 31 = .ok (.iload 4, 2) := by decide +kernel
theorem dX6_fits_33 : decode cX6_fits 33 = .ok (.imul, 1) := by decide +kernel
theorem dX6_fits_34 : decode cX6_fits 34 = .ok (.iload_n 2, 1) := by decide +kernel
theorem dX6_fits_35 : decode cX6_fits 35 = .ok (.iadd, 1) := by decide +kernel
theorem dX6_fits_36 : decode cX6_fits 36 = .ok (.iaload, 1) := by decide +kernel
theorem dX6_fits_37 : decode cX6_fits 37 = .ok (.goto 4, 3) := by decide +kernel
theorem dX6_fits_40 : decode cX6_fits 40 = .ok (.iconst 0, 1) := by decide +kernel
theorem dX6_fits_41 : decode cX6_fits 41 = .ok (.iadd, 1) := by decide +kernel
theorem dX6_fits_42 : decode cX6_fits 42 = .ok (.istore_n 3, 1) := by decide +kernel
theorem dX6_fits_43 : decode cX6_fits 43 = .ok (.iinc 4 1, 3) := by decide +kernel
theorem dX6_fits_46 : decode cX6_fits 46 = .ok (.goto (-41), 3) := by decide +kernel
theorem dX6_fits_49 : decode cX6_fits 49 = .ok (.iload_n 3, 1) := by decide +kernel
theorem dX6_fits_50 : decode cX6_fits 50 = .ok (.aload_n 0, 1) := by decide +kernel
theorem dX6_fits_51 : decode cX6_fits 51 = .ok (.getfield 7, 3) := by decide +kernel
theorem dX6_fits_54 : decode cX6_fits 54 = .ok (.iconst 3, 1) := by decide +kernel
theorem dX6_fits_55 : decode cX6_fits 55 = .ok (.iload_n 1, 1) := by decide +kernel
theorem dX6_fits_56 : decode cX6_fits 56 = .ok (.imul, 1) := by decide +kernel
theorem dX6_fits_57 : decode cX6_fits 57 = .ok (.iload_n 2, 1) := by decide +kernel
theorem dX6_fits_58 : decode cX6_fits 58 = .ok (.iadd, 1) := by decide +kernel
theorem dX6_fits_59 : decode cX6_fits 59 = .ok (.iaload, 1) := by decide +kernel
theorem dX6_fits_60 : decode cX6_fits 60 = .ok (.if_icmp .gt 7, 3) := by decide +kernel
theorem dX6_fits_63 : decode cX6_fits 63 = .ok (.iconst 1, 1) := by decide +kernel
theorem dX6_fits_64 : decode cX6_fits 64 = .ok (.goto 4, 3) := by decide +kernel
theorem dX6_fits_67 : decode cX6_fits 67 = .ok (.iconst 0, 1) := by decide +kernel
theorem dX6_fits_68 : decode cX6_fits 68 = .ok (.ireturn, 1) := by decide +kernel
theorem dX6_isSound_0 : decode cX6_isSound 0 = .ok (.iconst 0, 1) := by decide +kernel
theorem dX6_isSound_1 : decode cX6_isSound 1 = .ok (.istore_n 1, 1) := by decide +kernel
theorem dX6_isSound_2 : decode cX6_isSound 2 = .ok (.iload_n 1, 1) := by decide +kernel
theorem dX6_isSound_3 : decode cX6_isSound 3 = .ok (.aload_n 0, 1) := by decide +kernel
theorem dX6_isSound_4 : decode cX6_isSound 4 = .ok (.getfield 67, 3) := by decide +kernel
theorem dX6_isSound_7 : decode cX6_isSound 7 = .ok (.if_icmp .ge 25, 3) := by decide +kernel
theorem dX6_isSound_10 : decode cX6_isSound 10 = .ok (.aload_n 0, 1) := by decide +kernel
theorem dX6_isSound_11 : decode cX6_isSound 11 = .ok (.getfield 13, 3) := by decide +kernel
theorem dX6_isSound_14 : decode cX6_isSound 14 = .ok (.aload_n 0, 1) := by decide +kernel
theorem dX6_isSound_15 : decode cX6_isSound 15 = .ok (.getfield 50, 3) := by decide +kernel
theorem dX6_isSound_18 : decode cX6_isSound 18 = .ok (.iload_n 1, 1) := by decide +kernel
theorem dX6_isSound_19 : decode cX6_isSound 19 = .ok (.iaload, 1) := by decide +kernel
theorem dX6_isSound_20 : decode cX6_isSound 20 = .ok (.baload, 1) := by decide +kernel
theorem dX6_isSound_21 : decode cX6_isSound 21 = .ok (.ifCond .eq 5, 3) := by decide +kernel
theorem dX6_isSound_24 : decode cX6_isSound 24 = .ok (.iconst 0, 1) := by decide +kernel
theorem dX6_isSound_25 : decode cX6_isSound 25 = .ok (.ireturn, 1) := by decide +kernel
theorem dX6_isSound_26 : decode cX6_isSound 26 = .ok (.iinc 1 1, 3) := by decide +kernel
theorem dX6_isSound_29 : decode cX6_isSound 29 = .ok (.goto (-27), 3) := by decide +kernel
theorem dX6_isSound_32 : decode cX6_isSound 32 = .ok (.iconst 0, 1) := by decide +kernel
theorem dX6_isSound_33 : decode cX6_isSound 33 = .ok (.istore_n 1, 1) := by decide +kernel
theorem dX6_isSound_34 : decode cX6_isSound 34 = .ok (.iload_n 1, 1) := by decide +kernel
theorem dX6_isSound_35 : decode cX6_isSound 35 = .ok (.aload_n 0, 1) := by decide +kernel
theorem dX6_isSound_36 : decode cX6_isSound 36 = .ok (.getfield 97, 3) := by decide +kernel
theorem dX6_isSound_39 : decode cX6_isSound 39 = .ok (.if_icmp .ge 36, 3) := by decide +kernel
theorem dX6_isSound_42 : decode cX6_isSound 42 = .ok (.aload_n 0, 1) := by decide +kernel
theorem dX6_isSound_43 : decode cX6_isSound 43 = .ok (.getfield 50, 3) := by decide +kernel
theorem dX6_isSound_46 : decode cX6_isSound 46 = .ok (.aload_n 0, 1) := by decide +kernel
theorem dX6_isSound_47 : decode cX6_isSound 47 = .ok (.getfield 44, 3) := by decide +kernel
theorem dX6_isSound_50 : decode cX6_isSound 50 = .ok (.iload_n 1, 1) := by decide +kernel
theorem dX6_isSound_51 : decode cX6_isSound 51 = .ok (.iaload, 1) := by decide +kernel
theorem dX6_isSound_52 : decode cX6_isSound 52 = .ok (.iaload, 1) := by decide +kernel
theorem dX6_isSound_53 : decode cX6_isSound 53 = .ok (.aload_n 0, 1) := by decide +kernel
theorem dX6_isSound_54 : decode cX6_isSound 54 = .ok (.getfield 50, 3) := by decide +kernel
theorem dX6_isSound_57 : decode cX6_isSound 57 = .ok (.aload_n 0, 1) := by decide +kernel
theorem dX6_isSound_58 : decode cX6_isSound 58 = .ok (.getfield 47, 3) := by decide +kernel
theorem dX6_isSound_61 : decode cX6_isSound 61 = .ok (.iload_n 1, 1) := by decide +kernel
theorem dX6_isSound_62 : decode cX6_isSound 62 = .ok (.iaload, 1) := by decide +kernel
theorem dX6_isSound_63 : decode cX6_isSound 63 = .ok (.iaload, 1) := by decide +kernel
theorem dX6_isSound_64 : decode cX6_isSound 64 = .ok (.if_icmp .ne 5, 3) := by decide +kernel
theorem dX6_isSound_67 : decode cX6_isSound 67 = .ok (.iconst 0, 1) := by decide +kernel
theorem dX6_isSound_68 : decode cX6_isSound 68 = .ok (.ireturn, 1) := by decide +kernel
theorem dX6_isSound_69 : decode cX6_isSound 69 = .ok (.iinc 1 1, 3) := by decide +kernel
theorem dX6_isSound_72 : decode cX6_isSound 72 = .ok (.goto (-38), 3) := by decide +kernel
theorem dX6_isSound_75 : decode cX6_isSound 75 = .ok (.iconst 0, 1) := by decide +kernel
theorem dX6_isSound_76 : decode cX6_isSound 76 = .ok (.istore_n 1, 1) := by decide +kernel
theorem dX6_isSound_77 : decode cX6_isSound 77 = .ok (.iload_n 1, 1) := by decide +kernel
theorem dX6_isSound_78 : decode cX6_isSound 78 = .ok (.aload_n 0, 1) := by decide +kernel
theorem dX6_isSound_79 : decode cX6_isSound 79 = .ok (.getfield 60, 3) := by decide +kernel
theorem dX6_isSound_82 : decode cX6_isSound 82 = .ok (.if_icmp .ge 33, 3) := by decide +kernel
theorem dX6_isSound_85 : decode cX6_isSound 85 = .ok (.iconst 0, 1) := by decide +kernel
theorem dX6_isSound_86 : decode cX6_isSound 86 = .ok (.istore_n 2, 1) := by decide +kernel
theorem dX6_isSound_87 : decode cX6_isSound 87 = .ok (.iload_n 2, 1) := by decide +kernel
theorem dX6_isSound_88 : decode cX6_isSound 88 = .ok (.iconst 3, 1) := by decide +kernel
theorem dX6_isSound_89 : decode cX6_isSound 89 = .ok (.if_icmp .ge 20, 3) := by decide +kernel
theorem dX6_isSound_92 : decode cX6_isSound 92 = .ok (.aload_n 0, 1) := by decide +kernel
theorem dX6_isSound_93 : decode cX6_isSound 93 = .ok (.iload_n 1, 1) := by decide +kernel
theorem dX6_isSound_94 : decode cX6_isSound 94 = .ok (.iload_n 2, 1) := by decide +kernel
theorem dX6_isSound_95 : decode cX6_isSound 95 = .ok (.invokevirtual 152, 3) := by decide +kernel
theorem dX6_isSound_98 : decode cX6_isSound 98 = .ok (.ifCond .ne 5, 3) := by decide +kernel
theorem dX6_isSound_101 : decode cX6_isSound 101 = .ok (.iconst 0, 1) := by decide +kernel
theorem dX6_isSound_102 : decode cX6_isSound 102 = .ok (.ireturn, 1) := by decide +kernel
theorem dX6_isSound_103 : decode cX6_isSound 103 = .ok (.iinc 2 1, 3) := by decide +kernel
theorem dX6_isSound_106 : decode cX6_isSound 106 = .ok (.goto (-19), 3) := by decide +kernel
theorem dX6_isSound_109 : decode cX6_isSound 109 = .ok (.iinc 1 1, 3) := by decide +kernel
theorem dX6_isSound_112 : decode cX6_isSound 112 = .ok (.goto (-35), 3) := by decide +kernel
theorem dX6_isSound_115 : decode cX6_isSound 115 = .ok (.iconst 1, 1) := by decide +kernel
theorem dX6_isSound_116 : decode cX6_isSound 116 = .ok (.ireturn, 1) := by decide +kernel
theorem dX6_laysPlan_0 : decode cX6_laysPlan 0 = .ok (.iload_n 1, 1) := by decide +kernel
theorem dX6_laysPlan_1 : decode cX6_laysPlan 1 = .ok (.istore_n 2, 1) := by decide +kernel
theorem dX6_laysPlan_2 : decode cX6_laysPlan 2 = .ok (.aload_n 0, 1) := by decide +kernel
theorem dX6_laysPlan_3 : decode cX6_laysPlan 3 = .ok (.getfield 67, 3) := by decide +kernel
theorem dX6_laysPlan_6 : decode cX6_laysPlan 6 = .ok (.iconst 1, 1) := by decide +kernel
theorem dX6_laysPlan_7 : decode cX6_laysPlan 7 = .ok (.isub, 1) := by decide +kernel
theorem dX6_laysPlan_8 : decode cX6_laysPlan 8 = .ok (.istore_n 3, 1) := by decide +kernel
theorem dX6_laysPlan_9 : decode cX6_laysPlan 9 = .ok (.iload_n 3, 1) := by decide +kernel
theorem dX6_laysPlan_10 : decode cX6_laysPlan 10 = .ok (.ifCond .lt 28, 3) := by decide +kernel
theorem dX6_laysPlan_13 : decode cX6_laysPlan 13 = .ok (.aload_n 0, 1) := by decide +kernel
theorem dX6_laysPlan_14 : decode cX6_laysPlan 14 = .ok (.getfield 50, 3) := by decide +kernel
theorem dX6_laysPlan_17 : decode cX6_laysPlan 17 = .ok (.iload_n 3, 1) := by decide +kernel
theorem dX6_laysPlan_18 : decode cX6_laysPlan 18 = .ok (.iload_n 2, 1) := by decide +kernel
theorem dX6_laysPlan_19 : decode cX6_laysPlan 19 = .ok (.aload_n 0, 1) := by decide +kernel
theorem dX6_laysPlan_20 : decode cX6_laysPlan 20 = .ok (.getfield 60, 3) := by decide +kernel
theorem dX6_laysPlan_23 : decode cX6_laysPlan 23 = .ok (.irem, 1) := by decide +kernel
theorem dX6_laysPlan_24 : decode cX6_laysPlan 24 = .ok (.iastore, 1) := by decide +kernel
theorem dX6_laysPlan_25 : decode cX6_laysPlan 25 = .ok (.iload_n 2, 1) := by decide +kernel
theorem dX6_laysPlan_26 : decode cX6_laysPlan 26 = .ok (.aload_n 0, 1) := by decide +kernel
theorem dX6_laysPlan_27 : decode cX6_laysPlan 27 = .ok (.getfield 60, 3) := by decide +kernel
theorem dX6_laysPlan_30 : decode cX6_laysPlan 30 = .ok (.idiv, 1) := by decide +kernel
theorem dX6_laysPlan_31 : decode cX6_laysPlan 31 = .ok (.istore_n 2, 1) := by decide +kernel
theorem dX6_laysPlan_32 : decode cX6_laysPlan 32 = .ok (.iinc 3 (-1), 3) := by decide +kernel
theorem dX6_laysPlan_35 : decode cX6_laysPlan 35 = .ok (.goto (-26), 3) := by decide +kernel
theorem dX6_laysPlan_38 : decode cX6_laysPlan 38 = .ok (.return_, 1) := by decide +kernel
theorem dX6_movesOfPlan_0 : decode cX6_movesOfPlan 0 = .ok (.iconst 0, 1) := by decide +kernel
theorem dX6_movesOfPlan_1 : decode cX6_movesOfPlan 1 = .ok (.istore_n 1, 1) := by decide +kernel
theorem dX6_movesOfPlan_2 : decode cX6_movesOfPlan 2 = .ok (.iconst 0, 1) := by decide +kernel
theorem dX6_movesOfPlan_3 : decode cX6_movesOfPlan 3 = .ok (.istore_n 2, 1) := by decide +kernel
theorem dX6_movesOfPlan_4 : decode cX6_movesOfPlan 4 = .ok (.iload_n 2, 1) := by decide +kernel
theorem dX6_movesOfPlan_5 : decode cX6_movesOfPlan 5 = .ok (.aload_n 0, 1) := by decide +kernel
theorem dX6_movesOfPlan_6 : decode cX6_movesOfPlan 6 = .ok (.getfield 67, 3) := by decide +kernel
theorem dX6_movesOfPlan_9 : decode cX6_movesOfPlan 9 = .ok (.if_icmp .ge 32, 3) := by decide +kernel
theorem dX6_movesOfPlan_12 : decode cX6_movesOfPlan 12 = .ok (.iload_n 1, 1) := by decide +kernel
theorem dX6_movesOfPlan_13 : decode cX6_movesOfPlan 13 = .ok (.aload_n 0, 1) := by decide +kernel
theorem dX6_movesOfPlan_14 : decode cX6_movesOfPlan 14 = .ok (.getfield 50, 3) := by decide +kernel
theorem dX6_movesOfPlan_17 : decode cX6_movesOfPlan 17 = .ok (.iload_n 2, 1) := by decide +kernel
theorem dX6_movesOfPlan_18 : decode cX6_movesOfPlan 18 = .ok (.iaload, 1) := by decide +kernel
theorem dX6_movesOfPlan_19 : decode cX6_movesOfPlan 19 = .ok (.aload_n 0, 1) := by decide +kernel
theorem dX6_movesOfPlan_20 : decode cX6_movesOfPlan 20 = .ok (.getfield 29, 3) := by decide +kernel
theorem dX6_movesOfPlan_23 : decode cX6_movesOfPlan 23 = .ok (.iload_n 2, 1) := by decide +kernel
theorem dX6_movesOfPlan_24 : decode cX6_movesOfPlan 24 = .ok (.iaload, 1) := by decide +kernel
theorem dX6_movesOfPlan_25 : decode cX6_movesOfPlan 25 = .ok (.if_icmp .ne 7, 3) := by decide +kernel
theorem dX6_movesOfPlan_28 : decode cX6_movesOfPlan 28 = .ok (.iconst 0, 1) := by decide +kernel
theorem dX6_movesOfPlan_29 : decode cX6_movesOfPlan 29 = .ok (.goto 4, 3) := by decide +kernel
theorem dX6_movesOfPlan_32 : decode cX6_movesOfPlan 32 = .ok (.iconst 1, 1) := by decide +kernel
theorem dX6_movesOfPlan_33 : decode cX6_movesOfPlan 33 = .ok (.iadd, 1) := by decide +kernel
theorem dX6_movesOfPlan_34 : decode cX6_movesOfPlan 34 = .ok (.istore_n 1, 1) := by decide +kernel
theorem dX6_movesOfPlan_35 : decode cX6_movesOfPlan 35 = .ok (.iinc 2 1, 3) := by decide +kernel
theorem dX6_movesOfPlan_38 : decode cX6_movesOfPlan 38 = .ok (.goto (-34), 3) := by decide +kernel
theorem dX6_movesOfPlan_41 : decode cX6_movesOfPlan 41 = .ok (.iload_n 1, 1) := by decide +kernel
theorem dX6_movesOfPlan_42 : decode cX6_movesOfPlan 42 = .ok (.ireturn, 1) := by decide +kernel
theorem dX6_sound_0 : decode cX6_sound 0 = .ok (.iconst 1, 1) := by decide +kernel
theorem dX6_sound_1 : decode cX6_sound 1 = .ok (.istore_n 1, 1) := by decide +kernel
theorem dX6_sound_2 : decode cX6_sound 2 = .ok (.iconst 0, 1) := by decide +kernel
theorem dX6_sound_3 : decode cX6_sound 3 = .ok (.istore_n 2, 1) := by decide +kernel
theorem dX6_sound_4 : decode cX6_sound 4 = .ok (.iload_n 2, 1) := by decide +kernel
theorem dX6_sound_5 : decode cX6_sound 5 = .ok (.aload_n 0, 1) := by decide +kernel
theorem dX6_sound_6 : decode cX6_sound 6 = .ok (.getfield 67, 3) := by decide +kernel
theorem dX6_sound_9 : decode cX6_sound 9 = .ok (.if_icmp .ge 16, 3) := by decide +kernel
theorem dX6_sound_12 : decode cX6_sound 12 = .ok (.iload_n 1, 1) := by decide +kernel
theorem dX6_sound_13 : decode cX6_sound 13 = .ok (.aload_n 0, 1) := by decide +kernel
theorem dX6_sound_14 : decode cX6_sound 14 = .ok (.getfield 60, 3) := by decide +kernel
theorem dX6_sound_17 : decode cX6_sound 17 = .ok (.imul, 1) := by decide +kernel
theorem dX6_sound_18 : decode cX6_sound 18 = .ok (.istore_n 1, 1) := by decide +kernel
theorem dX6_sound_19 : decode cX6_sound 19 = .ok (.iinc 2 1, 3) := by decide +kernel
theorem dX6_sound_22 : decode cX6_sound 22 = .ok (.goto (-18), 3) := by decide +kernel
theorem dX6_sound_25 : decode cX6_sound 25 = .ok (.iconst 0, 1) := by decide +kernel
theorem dX6_sound_26 : decode cX6_sound 26 = .ok (.istore_n 2, 1) := by decide +kernel
theorem dX6_sound_27 : decode cX6_sound 27 = .ok (.aload_n 0, 1) := by decide +kernel
theorem dX6_sound_28 : decode cX6_sound 28 = .ok (.iconst (-1), 1) := by decide +kernel
theorem dX6_sound_29 : decode cX6_sound 29 = .ok (.putfield 155, 3) := by decide +kernel
theorem dX6_sound_32 : decode cX6_sound 32 = .ok (.iconst 0, 1) := by decide +kernel
theorem dX6_sound_33 : decode cX6_sound 33 = .ok (.istore_n 3, 1) := by decide +kernel
theorem dX6_sound_34 : decode cX6_sound 34 = .ok (.iload_n 3, 1) := by decide +kernel
theorem dX6_sound_35 : decode cX6_sound 35 = .ok (.iload_n 1, 1) := by decide +kernel
theorem dX6_sound_36 : decode cX6_sound 36 = .ok (.if_icmp .ge 88, 3) := by decide +kernel
theorem dX6_sound_39 : decode cX6_sound 39 = .ok (.aload_n 0, 1) := by decide +kernel
theorem dX6_sound_40 : decode cX6_sound 40 = .ok (.iload_n 3, 1) := by decide +kernel
theorem dX6_sound_41 : decode cX6_sound 41 = .ok (.invokevirtual 158, 3) := by decide +kernel
theorem dX6_sound_44 : decode cX6_sound 44 = .ok (.aload_n 0, 1) := by decide +kernel
theorem dX6_sound_45 : decode cX6_sound 45 = .ok (.invokevirtual 162, 3) := by decide +kernel
theorem dX6_sound_48 : decode cX6_sound 48 = .ok (.ifCond .ne 6, 3) := by decide +kernel
theorem dX6_sound_51 : decode cX6_sound 51 = .ok (.goto 67, 3) := by decide +kernel
theorem dX6_sound_54 : decode cX6_sound 54 = .ok (.iinc 2 1, 3) := by decide +kernel
theorem dX6_sound_57 : decode cX6_sound 57 = .ok (.aload_n 0, 1) := by decide +kernel
theorem dX6_sound_58 : decode cX6_sound 58 = .ok (.getfield 155, 3) := by decide +kernel
theorem dX6_sound_61 : decode cX6_sound 61 = .ok (.ifCond .lt 17, 3) := by decide +kernel
theorem dX6_sound_64 : decode cX6_sound 64 = .ok (.aload_n 0, 1) := by decide +kernel
theorem dX6_sound_65 : decode cX6_sound 65 = .ok (.invokevirtual 166, 3) := by decide +kernel
theorem dX6_sound_68 : decode cX6_sound 68 = .ok (.aload_n 0, 1) := by decide +kernel
theorem dX6_sound_69 : decode cX6_sound 69 = .ok (.getfield 155, 3) := by decide +kernel
theorem dX6_sound_72 : decode cX6_sound 72 = .ok (.if_icmp .lt 6, 3) := by decide +kernel
theorem dX6_sound_75 : decode cX6_sound 75 = .ok (.goto 43, 3) := by decide +kernel
theorem dX6_sound_78 : decode cX6_sound 78 = .ok (.aload_n 0, 1) := by decide +kernel
theorem dX6_sound_79 : decode cX6_sound 79 = .ok (.aload_n 0, 1) := by decide +kernel
theorem dX6_sound_80 : decode cX6_sound 80 = .ok (.invokevirtual 166, 3) := by decide +kernel
theorem dX6_sound_83 : decode cX6_sound 83 = .ok (.putfield 155, 3) := by decide +kernel
theorem dX6_sound_86 : decode cX6_sound 86 = .ok (.iconst 0, 1) := by decide +kernel
theorem dX6_sound_87 : decode cX6_sound 87 = .ok (.istore 4, 2) := by decide +kernel
theorem dX6_sound_89 : decode cX6_sound 89 = .ok (.iload 4, 2) := by decide +kernel
theorem dX6_sound_91 : decode cX6_sound 91 = .ok (.aload_n 0, 1) := by decide +kernel
theorem dX6_sound_92 : decode cX6_sound 92 = .ok (.getfield 67, 3) := by decide +kernel
theorem dX6_sound_95 : decode cX6_sound 95 = .ok (.if_icmp .ge 23, 3) := by decide +kernel
theorem dX6_sound_98 : decode cX6_sound 98 = .ok (.aload_n 0, 1) := by decide +kernel
theorem dX6_sound_99 : decode cX6_sound 99 = .ok (.getfield 53, 3) := by decide +kernel
theorem dX6_sound_102 : decode cX6_sound 102 = .ok (.iload 4, 2) := by decide +kernel
theorem dX6_sound_104 : decode cX6_sound 104 = .ok (.aload_n 0, 1) := by decide +kernel
theorem dX6_sound_105 : decode cX6_sound 105 = .ok (.getfield 50, 3) := by decide +kernel
theorem dX6_sound_108 : decode cX6_sound 108 = .ok (.iload 4, 2) := by decide +kernel
theorem dX6_sound_110 : decode cX6_sound 110 = .ok (.iaload, 1) := by decide +kernel
theorem dX6_sound_111 : decode cX6_sound 111 = .ok (.iastore, 1) := by decide +kernel
theorem dX6_sound_112 : decode cX6_sound 112 = .ok (.iinc 4 1, 3) := by decide +kernel
theorem dX6_sound_115 : decode cX6_sound 115 = .ok (.goto (-26), 3) := by decide +kernel
theorem dX6_sound_118 : decode cX6_sound 118 = .ok (.iinc 3 1, 3) := by decide +kernel
theorem dX6_sound_121 : decode cX6_sound 121 = .ok (.goto (-87), 3) := by decide +kernel
theorem dX6_sound_124 : decode cX6_sound 124 = .ok (.iload_n 2, 1) := by decide +kernel
theorem dX6_sound_125 : decode cX6_sound 125 = .ok (.ireturn, 1) := by decide +kernel
theorem dX6_fewest_0 : decode cX6_fewest 0 = .ok (.aload_n 0, 1) := by decide +kernel
theorem dX6_fewest_1 : decode cX6_fewest 1 = .ok (.aload_n 0, 1) := by decide +kernel
theorem dX6_fewest_2 : decode cX6_fewest 2 = .ok (.invokevirtual 169, 3) := by decide +kernel
theorem dX6_fewest_5 : decode cX6_fewest 5 = .ok (.ifCond .ne 7, 3) := by decide +kernel
theorem dX6_fewest_8 : decode cX6_fewest 8 = .ok (.iconst 1, 1) := by decide +kernel
theorem dX6_fewest_9 : decode cX6_fewest 9 = .ok (.goto 4, 3) := by decide +kernel
theorem dX6_fewest_12 : decode cX6_fewest 12 = .ok (.iconst 0, 1) := by decide +kernel
theorem dX6_fewest_13 : decode cX6_fewest 13 = .ok (.invokevirtual 70, 3) := by decide +kernel
theorem dX6_fewest_16 : decode cX6_fewest 16 = .ok (.ifCond .eq 7, 3) := by decide +kernel
theorem dX6_fewest_19 : decode cX6_fewest 19 = .ok (.iconst 0, 1) := by decide +kernel
theorem dX6_fewest_20 : decode cX6_fewest 20 = .ok (.goto 7, 3) := by decide +kernel
theorem dX6_fewest_23 : decode cX6_fewest 23 = .ok (.aload_n 0, 1) := by decide +kernel
theorem dX6_fewest_24 : decode cX6_fewest 24 = .ok (.getfield 155, 3) := by decide +kernel
theorem dX6_fewest_27 : decode cX6_fewest 27 = .ok (.ireturn, 1) := by decide +kernel
theorem dX6_fewestMoves_0 : decode cX6_fewestMoves 0 = .ok (.aload_n 0, 1) := by decide +kernel
theorem dX6_fewestMoves_1 : decode cX6_fewestMoves 1 = .ok (.invokevirtual 172, 3) := by decide +kernel
theorem dX6_fewestMoves_4 : decode cX6_fewestMoves 4 = .ok (.ireturn, 1) := by decide +kernel
theorem dX6_fewestByTrying_0 : decode cX6_fewestByTrying 0 = .ok (.aload_n 0, 1) := by decide +kernel
theorem dX6_fewestByTrying_1 : decode cX6_fewestByTrying 1 = .ok (.invokevirtual 172, 3) := by decide +kernel
theorem dX6_fewestByTrying_4 : decode cX6_fewestByTrying 4 = .ok (.ireturn, 1) := by decide +kernel
theorem dX6_planned_0 : decode cX6_planned 0 = .ok (.aload_n 0, 1) := by decide +kernel
theorem dX6_planned_1 : decode cX6_planned 1 = .ok (.aload_n 0, 1) := by decide +kernel
theorem dX6_planned_2 : decode cX6_planned 2 = .ok (.iload_n 1, 1) := by decide +kernel
theorem dX6_planned_3 : decode cX6_planned 3 = .ok (.invokevirtual 94, 3) := by decide +kernel
theorem dX6_planned_6 : decode cX6_planned 6 = .ok (.ifCond .eq 7, 3) := by decide +kernel
theorem dX6_planned_9 : decode cX6_planned 9 = .ok (.iconst 1, 1) := by decide +kernel
theorem dX6_planned_10 : decode cX6_planned 10 = .ok (.goto 15, 3) := by decide +kernel
theorem dX6_planned_13 : decode cX6_planned 13 = .ok (.aload_n 0, 1) := by decide +kernel
theorem dX6_planned_14 : decode cX6_planned 14 = .ok (.invokevirtual 169, 3) := by decide +kernel
theorem dX6_planned_17 : decode cX6_planned 17 = .ok (.ifCond .ne 7, 3) := by decide +kernel
theorem dX6_planned_20 : decode cX6_planned 20 = .ok (.iconst 2, 1) := by decide +kernel
theorem dX6_planned_21 : decode cX6_planned 21 = .ok (.goto 4, 3) := by decide +kernel
theorem dX6_planned_24 : decode cX6_planned 24 = .ok (.iconst 0, 1) := by decide +kernel
theorem dX6_planned_25 : decode cX6_planned 25 = .ok (.invokevirtual 70, 3) := by decide +kernel
theorem dX6_planned_28 : decode cX6_planned 28 = .ok (.ifCond .eq 7, 3) := by decide +kernel
theorem dX6_planned_31 : decode cX6_planned 31 = .ok (.iconst 0, 1) := by decide +kernel
theorem dX6_planned_32 : decode cX6_planned 32 = .ok (.goto 9, 3) := by decide +kernel
theorem dX6_planned_35 : decode cX6_planned 35 = .ok (.aload_n 0, 1) := by decide +kernel
theorem dX6_planned_36 : decode cX6_planned 36 = .ok (.getfield 53, 3) := by decide +kernel
theorem dX6_planned_39 : decode cX6_planned 39 = .ok (.iload_n 1, 1) := by decide +kernel
theorem dX6_planned_40 : decode cX6_planned 40 = .ok (.iaload, 1) := by decide +kernel
theorem dX6_planned_41 : decode cX6_planned 41 = .ok (.ireturn, 1) := by decide +kernel
theorem dX6_soundPlans_0 : decode cX6_soundPlans 0 = .ok (.aload_n 0, 1) := by decide +kernel
theorem dX6_soundPlans_1 : decode cX6_soundPlans 1 = .ok (.aload_n 0, 1) := by decide +kernel
theorem dX6_soundPlans_2 : decode cX6_soundPlans 2 = .ok (.invokevirtual 169, 3) := by decide +kernel
theorem dX6_soundPlans_5 : decode cX6_soundPlans 5 = .ok (.invokevirtual 139, 3) := by decide +kernel
theorem dX6_soundPlans_8 : decode cX6_soundPlans 8 = .ok (.ireturn, 1) := by decide +kernel
theorem dX6_switches_0 : decode cX6_switches 0 = .ok (.aload_n 0, 1) := by decide +kernel
theorem dX6_switches_1 : decode cX6_switches 1 = .ok (.aload_n 0, 1) := by decide +kernel
theorem dX6_switches_2 : decode cX6_switches 2 = .ok (.getfield 117, 3) := by decide +kernel
theorem dX6_switches_5 : decode cX6_switches 5 = .ok (.invokevirtual 139, 3) := by decide +kernel
theorem dX6_switches_8 : decode cX6_switches 8 = .ok (.ireturn, 1) := by decide +kernel
theorem dX6_hoursOver_0 : decode cX6_hoursOver 0 = .ok (.aload_n 0, 1) := by decide +kernel
theorem dX6_hoursOver_1 : decode cX6_hoursOver 1 = .ok (.iconst 0, 1) := by decide +kernel
theorem dX6_hoursOver_2 : decode cX6_hoursOver 2 = .ok (.putfield 56, 3) := by decide +kernel
theorem dX6_hoursOver_5 : decode cX6_hoursOver 5 = .ok (.aload_n 0, 1) := by decide +kernel
theorem dX6_hoursOver_6 : decode cX6_hoursOver 6 = .ok (.getfield 126, 3) := by decide +kernel
theorem dX6_hoursOver_9 : decode cX6_hoursOver 9 = .ok (.lreturn, 1) := by decide +kernel
theorem dX6_shareOf_0 : decode cX6_shareOf 0 = .ok (.aload_n 0, 1) := by decide +kernel
theorem dX6_shareOf_1 : decode cX6_shareOf 1 = .ok (.iload_n 1, 1) := by decide +kernel
theorem dX6_shareOf_2 : decode cX6_shareOf 2 = .ok (.iload_n 2, 1) := by decide +kernel
theorem dX6_shareOf_3 : decode cX6_shareOf 3 = .ok (.invokevirtual 149, 3) := by decide +kernel
theorem dX6_shareOf_6 : decode cX6_shareOf 6 = .ok (.ifCond .eq 7, 3) := by decide +kernel
theorem dX6_shareOf_9 : decode cX6_shareOf 9 = .ok (.fconst 0, 1) := by decide +kernel
theorem dX6_shareOf_10 : decode cX6_shareOf 10 = .ok (.goto 22, 3) := by decide +kernel
theorem dX6_shareOf_13 : decode cX6_shareOf 13 = .ok (.aload_n 0, 1) := by decide +kernel
theorem dX6_shareOf_14 : decode cX6_shareOf 14 = .ok (.iload_n 1, 1) := by decide +kernel
theorem dX6_shareOf_15 : decode cX6_shareOf 15 = .ok (.iload_n 2, 1) := by decide +kernel
theorem dX6_shareOf_16 : decode cX6_shareOf 16 = .ok (.invokevirtual 87, 3) := by decide +kernel
theorem dX6_shareOf_19 : decode cX6_shareOf 19 = .ok (.i2f, 1) := by decide +kernel
theorem dX6_shareOf_20 : decode cX6_shareOf 20 = .ok (.aload_n 0, 1) := by decide +kernel
theorem dX6_shareOf_21 : decode cX6_shareOf 21 = .ok (.getfield 7, 3) := by decide +kernel
theorem dX6_shareOf_24 : decode cX6_shareOf 24 = .ok (.iconst 3, 1) := by decide +kernel
theorem dX6_shareOf_25 : decode cX6_shareOf 25 = .ok (.iload_n 1, 1) := by decide +kernel
theorem dX6_shareOf_26 : decode cX6_shareOf 26 = .ok (.imul, 1) := by decide +kernel
theorem dX6_shareOf_27 : decode cX6_shareOf 27 = .ok (.iload_n 2, 1) := by decide +kernel
theorem dX6_shareOf_28 : decode cX6_shareOf 28 = .ok (.iadd, 1) := by decide +kernel
theorem dX6_shareOf_29 : decode cX6_shareOf 29 = .ok (.iaload, 1) := by decide +kernel
theorem dX6_shareOf_30 : decode cX6_shareOf 30 = .ok (.i2f, 1) := by decide +kernel
theorem dX6_shareOf_31 : decode cX6_shareOf 31 = .ok (.fdiv, 1) := by decide +kernel
theorem dX6_shareOf_32 : decode cX6_shareOf 32 = .ok (.freturn, 1) := by decide +kernel
theorem dX6_meanStorage_0 : decode cX6_meanStorage 0 = .ok (.aload_n 0, 1) := by decide +kernel
theorem dX6_meanStorage_1 : decode cX6_meanStorage 1 = .ok (.aload_n 0, 1) := by decide +kernel
theorem dX6_meanStorage_2 : decode cX6_meanStorage 2 = .ok (.getfield 67, 3) := by decide +kernel
theorem dX6_meanStorage_5 : decode cX6_meanStorage 5 = .ok (.ifCond .ne 7, 3) := by decide +kernel
theorem dX6_meanStorage_8 : decode cX6_meanStorage 8 = .ok (.iconst 1, 1) := by decide +kernel
theorem dX6_meanStorage_9 : decode cX6_meanStorage 9 = .ok (.goto 4, 3) := by decide +kernel
theorem dX6_meanStorage_12 : decode cX6_meanStorage 12 = .ok (.iconst 0, 1) := by decide +kernel
theorem dX6_meanStorage_13 : decode cX6_meanStorage 13 = .ok (.invokevirtual 70, 3) := by decide +kernel
theorem dX6_meanStorage_16 : decode cX6_meanStorage 16 = .ok (.ifCond .eq 5, 3) := by decide +kernel
theorem dX6_meanStorage_19 : decode cX6_meanStorage 19 = .ok (.dconst 0, 1) := by decide +kernel
theorem dX6_meanStorage_20 : decode cX6_meanStorage 20 = .ok (.dreturn, 1) := by decide +kernel
theorem dX6_meanStorage_21 : decode cX6_meanStorage 21 = .ok (.iconst 0, 1) := by decide +kernel
theorem dX6_meanStorage_22 : decode cX6_meanStorage 22 = .ok (.istore_n 1, 1) := by decide +kernel
theorem dX6_meanStorage_23 : decode cX6_meanStorage 23 = .ok (.iconst 0, 1) := by decide +kernel
theorem dX6_meanStorage_24 : decode cX6_meanStorage 24 = .ok (.istore_n 2, 1) := by decide +kernel
theorem dX6_meanStorage_25 : decode cX6_meanStorage 25 = .ok (.iload_n 2, 1) := by decide +kernel
theorem dX6_meanStorage_26 : decode cX6_meanStorage 26 = .ok (.aload_n 0, 1) := by decide +kernel
theorem dX6_meanStorage_27 : decode cX6_meanStorage 27 = .ok (.getfield 67, 3) := by decide +kernel
theorem dX6_meanStorage_30 : decode cX6_meanStorage 30 = .ok (.if_icmp .ge 20, 3) := by decide +kernel
theorem dX6_meanStorage_33 : decode cX6_meanStorage 33 = .ok (.iload_n 1, 1) := by decide +kernel
theorem dX6_meanStorage_34 : decode cX6_meanStorage 34 = .ok (.aload_n 0, 1) := by decide +kernel
theorem dX6_meanStorage_35 : decode cX6_meanStorage 35 = .ok (.getfield 17, 3) := by decide +kernel
theorem dX6_meanStorage_38 : decode cX6_meanStorage 38 = .ok (.iconst 3, 1) := by decide +kernel
theorem dX6_meanStorage_39 : decode cX6_meanStorage 39 = .ok (.iload_n 2, 1) := by decide +kernel
theorem dX6_meanStorage_40 : decode cX6_meanStorage 40 = .ok (.imul, 1) := by decide +kernel
theorem dX6_meanStorage_41 : decode cX6_meanStorage 41 = .ok (.iaload, 1) := by decide +kernel
theorem dX6_meanStorage_42 : decode cX6_meanStorage 42 = .ok (.iadd, 1) := by decide +kernel
theorem dX6_meanStorage_43 : decode cX6_meanStorage 43 = .ok (.istore_n 1, 1) := by decide +kernel
theorem dX6_meanStorage_44 : decode cX6_meanStorage 44 = .ok (.iinc 2 1, 3) := by decide +kernel
theorem dX6_meanStorage_47 : decode cX6_meanStorage 47 = .ok (.goto (-22), 3) := by decide +kernel
theorem dX6_meanStorage_50 : decode cX6_meanStorage 50 = .ok (.iload_n 1, 1) := by decide +kernel
theorem dX6_meanStorage_51 : decode cX6_meanStorage 51 = .ok (.i2d, 1) := by decide +kernel
theorem dX6_meanStorage_52 : decode cX6_meanStorage 52 = .ok (.aload_n 0, 1) := by decide +kernel
theorem dX6_meanStorage_53 : decode cX6_meanStorage 53 = .ok (.getfield 67, 3) := by decide +kernel
theorem dX6_meanStorage_56 : decode cX6_meanStorage 56 = .ok (.i2d, 1) := by decide +kernel
theorem dX6_meanStorage_57 : decode cX6_meanStorage 57 = .ok (.ddiv, 1) := by decide +kernel
theorem dX6_meanStorage_58 : decode cX6_meanStorage 58 = .ok (.dreturn, 1) := by decide +kernel
